import java.util.ArrayList;
import java.util.List;

/** Terms 1, GRAMMAR and what NAMES mean: what may be left out or come again, how far a name is known, what binds first. */
public final class GrammarEdgesTest extends FaultChecks {
    private static final String[][] STRENGTHS = {{"||"}, {"&&"}, {"|"}, {"^"}, {"&"}, {"==", "!="}, {"<", "<=", ">", ">="},
        {"<<", ">>"}, {"+", "-"}, {"*", "/", "%"}};
    private static final String[] SETS = {"=", "+=", "-=", "*=", "/=", "%=", "&=", "|=", "^=", "<<=", ">>="};

    public static void main(String[] args) {
        leftOutOrAgain();
        elseOfTheNearestIf();
        strengths();
        otherStrengths();
        setsAndPlaces();
        knownFromTo();
        intsThatAreStats();
        toldAgain();
        innermost();
        functionsAndGlobals();
        CHECK.end();
    }

    /** Words of the code of a body, as they are; the same code is the same reading. */
    private static List<Integer> code(String body) {
        PocketCompiler x = Check.loaded(1024, HEAD + body + " }");
        List<Integer> words = new ArrayList<>();
        for (int k = 0; k < x.count(1); k++) {
            words.add(x.code(k));
        }
        return words;
    }

    private static void sameCode(String one, String other) {
        CHECK.same(one, code(one).toString(), code(other).toString());
    }

    private static void otherCode(String one, String other) {
        CHECK.no(one + " is not " + other, code(one).equals(code(other)));
    }

    /** "{ } any number of it, [ ] once or not". */
    private static void leftOutOrAgain() {
        fine("");
        fine("int a;");
        fine("int a; int b; int c[1]; int d() { }");
        fine("int f() {}");
        fine("int f(int a) {}");
        fine("int f(int a, int b) {}");
        due(2, "int f(int a, @) {}");
        due(2, "int f(@, int a) {}");
        due(2, "int f(int a @int b) {}");
        due(2, "int f(int a,@, int b) {}");
        due(2, "int f(int a)@");
        due(2, "int f(int a @[1]) {}");
        due(2, "int f(int a @= 1) {}");
        due(2, "int a[1] @[1];");
        due(2, "int a[@];");
        due(2, "int a[1 @+ 1];");
        due(2, "int a @= 1;");
        due(2, "int a;@;");
        due(2, "int f() {}@;");
        due(2, "int f() @int a; {}");
        fineIn("");
        fineIn(";");
        fineIn("{}");
        fineIn("{;}{}{{}}");
        fineIn("int x;");
        fineIn("int x = 1;");
        dueIn(2, "int x = 1 @= 2;");
        dueIn(2, "int x @(1);");
        dueIn(2, "int x = 1@, y;");
        fineIn("return;");
        fineIn("return 1;");
        dueIn(2, "return 1 @2;");
        dueIn(2, "return @return;");
        for (int k = 0; k < 8; k++) {
            String e1 = (k & 1) == 0 ? "" : "v = 1";
            String e2 = (k & 2) == 0 ? "" : "v";
            String e3 = (k & 4) == 0 ? "" : "v += 1";
            fineIn("for (" + e1 + ";" + e2 + ";" + e3 + ") ;");
            dueIn(2, "for (" + e1 + ";" + e2 + ";" + e3 + "@;) ;");
            dueIn(2, "for (" + e1 + ";" + e2 + "@) ;");
        }
        dueIn(2, "for (;;) @}");
        dueIn(2, "while (@) ;");
        dueIn(2, "while (v) @}");
        dueIn(2, "do ; while (@);");
        dueIn(2, "do ; while (v) @v;");
        dueIn(2, "do while (v) ; @;");
        dueIn(2, "if (@) ;");
        dueIn(2, "if (v) ; else @}");
        dueIn(2, "put(@);");
        dueIn(2, "put(1@, 2);");
        dueIn(2, "put(1) @+ 1;");
        dueIn(2, "1 + @put(1);");
        dueIn(2, "get(@1);");
        dueIn(2, "while (1) break @}");
        dueIn(2, "while (1) break @2;");
        dueIn(2, "v @}");
        fineIn("g(); f(1);");
        dueIn(2, "f(1, @);");
        dueIn(2, "f(@, 1);");
        dueIn(2, "f(1 @1);");
        dueIn(2, "f(1@;");
        dueIn(2, "int @;");
    }

    /** "(An else belongs to the nearest if.)" */
    private static void elseOfTheNearestIf() {
        sameCode("if (v) if (p) 1; else 2;", "if (v) { if (p) 1; else 2; }");
        otherCode("if (v) if (p) 1; else 2;", "if (v) { if (p) 1; } else 2;");
        sameCode("if (v) if (p) 1; else 2; else 3;", "if (v) { if (p) 1; else 2; } else 3;");
        sameCode("if (v) while (p) if (1) 1; else 2;", "if (v) { while (p) { if (1) 1; else 2; } }");
        sameCode("if (v) for (;;) if (1) 1; else 2; else 3;", "if (v) { for (;;) { if (1) 1; else 2; } } else 3;");
        sameCode("if (v) 1; else if (p) 2; else 3;", "if (v) 1; else { if (p) 2; else 3; }");
        dueIn(2, "if (v) if (p) 1; else 2; else 3; @else 4;");
        dueIn(2, "if (v) { if (p) 1; } else 2; @else 4;");
        dueIn(2, "if (v) { 1; } 2; @else 4;");
    }

    /** "of strengths from the weakest on", "those of one strength from the left": every two operators. */
    private static void strengths() {
        for (int a = 0; a < STRENGTHS.length; a++) {
            for (int b = 0; b < STRENGTHS.length; b++) {
                for (String one : STRENGTHS[a]) {
                    for (String two : STRENGTHS[b]) {
                        String both = "p " + one + " 2 " + two + " 3;";
                        String left = "(p " + one + " 2) " + two + " 3;";
                        String right = "p " + one + " (2 " + two + " 3);";
                        sameCode(both, a < b ? right : left);
                        otherCode(both, a < b ? left : right);
                    }
                }
            }
        }
        sameCode("1 || 2 && 3 | 4 ^ 5 & 6 == 7 < 8 << 9 + 10 * 11;",
            "1 || (2 && (3 | (4 ^ (5 & (6 == (7 < (8 << (9 + (10 * 11)))))))));");
        sameCode("1 * 2 + 3 << 4 < 5 == 6 & 7 ^ 8 | 9 && 10 || 11;",
            "(((((((((1 * 2) + 3) << 4) < 5) == 6) & 7) ^ 8) | 9) && 10) || 11;");
    }

    /** The operand's own signs bind first, ? : after all operators, from the right. */
    private static void otherStrengths() {
        for (String[] row : STRENGTHS) {
            for (String sign : row) {
                for (String unary : new String[] {"-", "!", "~"}) {
                    sameCode(unary + "p " + sign + " 2;", "(" + unary + "p) " + sign + " 2;");
                    sameCode("2 " + sign + " " + unary + "p " + sign + " 3;", "2 " + sign + " (" + unary + "p) " + sign + " 3;");
                }
                sameCode("p " + sign + " 2 ? 3 : 4;", "(p " + sign + " 2) ? 3 : 4;");
                sameCode("p ? 2 : 3 " + sign + " 4;", "p ? 2 : (3 " + sign + " 4);");
                sameCode("p ? 2 " + sign + " 3 : 4;", "p ? (2 " + sign + " 3) : 4;");
                sameCode("v = p " + sign + " 2;", "v = (p " + sign + " 2);");
            }
        }
        sameCode("p ? 1 : v ? 2 : 3;", "p ? 1 : (v ? 2 : 3);");
        sameCode("p ? v ? 1 : 2 : 3;", "p ? (v ? 1 : 2) : 3;");
        sameCode("- - !p;", "-(-(!p));");
        sameCode("-r[1];", "-(r[1]);");
        sameCode("-f(1);", "-(f(1));");
    }

    /** "E: PLACE SET E | C": a SET only behind a PLACE that is all that is ahead of it. */
    private static void setsAndPlaces() {
        for (String set : SETS) {
            fineIn("v " + set + " 1;");
            fineIn("p " + set + " 1;");
            fineIn("r[1] " + set + " 1;");
            sameCode("v " + set + " p " + set + " 1;", "v " + set + " (p " + set + " 1);");
            sameCode("v " + set + " p ? 1 : 2;", "v " + set + " (p ? 1 : 2);");
            sameCode("p ? v " + set + " 1 : 2;", "p ? (v " + set + " 1) : 2;");
            fineIn("r[v " + set + " 1];");
            fineIn("f(v " + set + " 1);");
            fineIn("if (v " + set + " 1) ;");
            fineIn("return v " + set + " 1;");
            fineIn("put(v " + set + " 1);");
            fineIn("int x = v " + set + " 1;");
            dueIn(2, "1 @" + set + " 1;");
            dueIn(2, "'a' @" + set + " 1;");
            dueIn(2, "(v) @" + set + " 1;");
            dueIn(2, "-v @" + set + " 1;");
            dueIn(2, "!r[1] @" + set + " 1;");
            dueIn(2, "1 + v @" + set + " 1;");
            dueIn(2, "v + v @" + set + " 1;");
            dueIn(2, "v && v @" + set + " 1;");
            dueIn(2, "g() @" + set + " 1;");
            dueIn(2, "get() @" + set + " 1;");
            dueIn(2, "p ? 1 : v @" + set + " 1;");
            dueIn(2, "v " + set + " @;");
            dueIn(2, "@" + set + " 1;");
        }
    }

    /** "known behind the ; of its int, up to the end of its block; a parameter in its function". */
    private static void knownFromTo() {
        dueIn(3, "@x; int x;");
        dueIn(3, "int x = @x;");
        dueIn(3, "int x = 1 + (@x = 1);");
        fineIn("int x; x;");
        fineIn("int x; int y = x;");
        fineIn("{ int x; { { x; } } x; }");
        dueIn(3, "{ int x; } @x;");
        dueIn(3, "{ { int x; } @x; }");
        dueIn(3, "if (v) { int x; } @x;");
        dueIn(3, "if (v) { int x; } else @x;");
        dueIn(3, "while (v) { int x; } @x;");
        dueIn(3, "do { int x; } while (@x);");
        dueIn(3, "for (;; @x) { int x; }");
        fineIn("{ int x; x; } { int x; x; }");
        due(3, "int f(int a) { a; { a; } } int g() { @a; }");
        due(3, "int f() { int a; } int g() { @a; }");
        due(3, "int f(int a) { } int g(int b) { b; @a; }");
        fine("int f(int a) { a; } int g(int a) { a; }");
        // A fault in the int itself ahead of its ; does not make it known.
        due(2, "int f() { int x @x; }");
    }

    /** "an int that is itself the stat of an if, else, while, do, for: .. nowhere", "in a block of its own". */
    private static void intsThatAreStats() {
        dueIn(3, "if (v) int x; @x;");
        dueIn(3, "if (v) int x; else @x;");
        dueIn(3, "if (v) ; else int x; @x;");
        dueIn(3, "while (v) int x; @x;");
        dueIn(3, "do int x; while (@x);");
        dueIn(3, "do int x; while (v); @x;");
        dueIn(3, "for (;;) int x; @x;");
        dueIn(3, "for (; @x;) int x;");
        // In a block of its own it may have any name, and may look at the one outside.
        fineIn("int x; if (v) int x = x; else int x = x; while (v) int x = x; do int x = x; while (x); for (;;) int x = x;");
        fineIn("if (v) int p; else int p; while (v) int p; do int p; while (v); for (;;) int p;");
        fineIn("if (v) int x; int x; if (v) int x;");
        dueIn(3, "int x; if (v) ; int @x;");
        dueIn(3, "if (v) if (v) int x; @x;");
        // Its slot is free again.
        PocketCompiler x = Check.loaded(1024, HEAD + "if (v) int x; else int y; while (v) int z; int w; }");
        CHECK.same("FRAME", x.function(1, 2), 8 + 4 * 2);
    }

    /** "one that is told again (an item's among items; a parameter's, a local's in its own block ..)". */
    private static void toldAgain() {
        due(3, "int a; int @a;");
        due(3, "int a; int b; int @a[1];");
        due(3, "int a() { } int @a;");
        due(3, "int a() { } int b; int @a() { }");
        due(3, "int f(int a, int b, int @a) { }");
        due(3, "int f(int a) { int @a; }");
        due(3, "int f(int a, int b) { ; { } int @b; }");
        due(3, "int f() { int a; int @a; }");
        due(3, "int f() { int a = 1; { int a; } int @a = 2; }");
        due(3, "int f() { { int a; { int a; } int @a; } }");
        due(3, "int f() { int a; int @a = $");
        // Not among these: an item's and a local's, one block's and another's, one function's and another's.
        fine("int a; int f(int a) { { int a; } { int a; { int a; } } } int g(int a, int g, int f) { } int h() { int a; int h; }");
        fine("int f(int f) { { int f; } }");
    }

    private static void value(String text, int due) {
        PocketCompiler x = Check.loaded(1024, text);
        CHECK.same("work of " + text, x.work(x.count(2) - 1, 5, 6, 100), 0);
        CHECK.same("value of " + text, x.told(1), due);
        x.start(x.count(2) - 1, 5, 6);
        x.run(5000);
        CHECK.same("result of " + text, x.result(), due);
    }

    /** "A NAME means what was told of it innermost". */
    private static void innermost() {
        value("int a; int f() { a = 3; return a; }", 3);
        value("int a; int f(int a) { return a; }", 5);
        value("int a; int f() { a = 3; int a = 4; return a; }", 4);
        value("int a; int f() { a = 3; { int a = 4; } return a; }", 3);
        value("int a; int f() { a = 3; int a = a + 1; return a; }", 4);
        value("int f(int a) { { int a = a + 1; { int a = a + 1; a = 9; } a += 10; return a; } }", 16);
        value("int f(int a) { { int a = 7; } return a; }", 5);
        value("int f(int a) { if (1) int a = 7; return a; }", 5);
        value("int a; int g() { return a; } int f() { int a = 7; return g(); }", 0);
        value("int r[2]; int f() { r[1] = 8; { int r = 3; r += 1; } return r[1]; }", 8);
        value("int a; int f(int b) { int c = 1; { int d = 2; c += d; } int d; return c * 10 + d; }", 30);
    }

    /** "else a global told ahead; a function, told ahead or later, behind which a ( stands". */
    private static void functionsAndGlobals() {
        due(3, "int f() { return @a; } int a;");
        due(3, "int f() { return @a[0]; } int a[1];");
        fine("int a; int f() { return a; }");
        fine("int f() { return g(); } int g() { return f(); }");
        due(3, "int f() { return @g; } int g() { }");
        due(3, "int g() { } int f() { return @g; }");
        due(3, "int g() { } int f() { return @g[1]; }");
        due(3, "int g() { } int f() { @g = 1; }");
        due(3, "int f() { return @f; }");
        // Ahead of a ( : no parameter, local or global known there.
        due(3, "int a; int f() { return @a(); }");
        due(3, "int a[1]; int f() { return @a(); }");
        due(3, "int f(int a) { return @a(); }");
        due(3, "int f(int f) { return @f(1); }");
        due(3, "int f() { int f; return @f(); }");
        due(3, "int g() { } int f() { int g; { return @g(); } }");
        fine("int g() { } int f() { { int g; } return g(); }");
        fine("int g() { } int f() { int g = g(); }");
        // A row just where a [ is behind it.
        due(3, "int a[2]; int f() { return @a; }");
        due(3, "int a[2]; int f() { @a = 1; }");
        due(3, "int a[2]; int f() { return @a + 1; }");
        due(3, "int a; int f() { return @a[0]; }");
        due(3, "int f(int a) { return @a[0]; }");
        due(3, "int f() { int a; return @a[0]; }");
        due(3, "int a[2]; int f(int a) { return @a[0]; }");
        fine("int a[2]; int f(int a) { return a; } int g() { return a[0]; }");
    }
}
