/** Promises 4, 5: each sort of FAULT, its place, and which one comes first. */
public final class FaultsTest extends FaultChecks {
    public static void main(String[] args) {
        tokens();
        grammar();
        names();
        calls();
        numbersAndRows();
        items();
        parametersAndArguments();
        open();
        slots();
        tokenCount();
        loops();
        room();
        CHECK.end();
    }

    private static void tokens() {
        fine("int abcdefghijklmnop;");
        due(1, "int @abcdefghijklmnopq;");
        fine("int _;int _1;int azAZ_09;int z;int Z;int Z_;int Z0Z;");
        due(1, "@$");
        due(1, "int a; @\u0080");
        due(1, "int a; @\u0000");
        due(1, "int a@.b;");
        due(1, "int a; @# a note");
        fine("int\ta\r;\n//\nint//x\nb;//");
        fineIn("return 1234567890;");
        dueIn(1, "return @12345678901;");
        dueIn(1, "return @00000000001;");
        fineIn("return 0000000001;");
        dueIn(1, "return @1a;");
        dueIn(1, "return @1_;");
        dueIn(1, "return @0x;");
        dueIn(1, "return @0X1;");
        dueIn(1, "return @0x1g;");
        dueIn(1, "return @0x123456789;");
        fineIn("return 0x12345678 + 0x90aBcDeF + 0xAbCdEf + 0x0 + 0x9 + 0xa + 0xA + 0xf + 0xF;");
        dueIn(1, "return @0xG;");
        dueIn(1, "return @0x/;");
        fineIn("return ' ' + '~' + '/' + '\"';");
        dueIn(1, "return @'';");
        dueIn(1, "return @''';");
        dueIn(1, "return @'a;");
        dueIn(1, "return @'ab';");
        dueIn(1, "return @'\t';");
        dueIn(1, "return @'\u007f';");
        due(1, "int a() { return @'a");
        due(1, "int a() { return @'");
        dueIn(2, "v & @& v;");
        fineIn("v = v && v & v || v | v;");
        fineIn("v = v<<v<=v; v<<=v; v>>=v>>v>=v;");
        dueIn(2, "v << @<= v;");
        dueIn(2, "v ==@= v;");
        fineIn("v = v - - - v;");
        dueIn(2, "v +@+;");
        dueIn(2, "v = v @v;");
    }

    private static void grammar() {
        due(2, "@a;");
        due(2, "@;");
        due(2, "int@");
        due(2, "int a@");
        due(2, "int a() @");
        due(2, "int a() {@");
        due(2, "int @if;");
        due(2, "int @1;");
        due(2, "int a @= 1;");
        due(2, "int a@, b;");
        due(2, "int a() { } @}");
        due(2, "int a(int @) { }");
        due(2, "int a(@b) { }");
        due(2, "int a(int b, @) { }");
        due(2, "int a(int b @int c) { }");
        due(2, "int a() @;");
        due(2, "int a(int b @[ 1 ]) { }");
        dueIn(2, "@else v;");
        dueIn(2, "if @v v;");
        dueIn(2, "while @v v;");
        dueIn(2, "do v; while @v;");
        dueIn(2, "for @v; v; v) v;");
        dueIn(2, "get @;");
        dueIn(2, "if (@) v;");
        dueIn(2, "if (v) v; else v; @else v;");
        dueIn(2, "if (v) @}");
        dueIn(2, "do v; @v;");
        dueIn(2, "do v; while (v) @}");
        dueIn(2, "for (v@) v;");
        dueIn(2, "for (v; v@) v;");
        dueIn(2, "for (;;@;) v;");
        dueIn(2, "for (@int i; ; ) v;");
        fineIn("for (;;) ; while (v) ; do ; while (v); if (v) ; else ; { } ;");
        dueIn(2, "while (1) { break @1; }");
        dueIn(2, "return v@}");
        dueIn(2, "put @v;");
        dueIn(2, "put(@);");
        dueIn(2, "v = @put(1);");
        dueIn(2, "v = get@;");
        dueIn(2, "v = get(@1);");
        fineIn("get(); put(get()); v; 1; 'a'; (v); -v;");
        dueIn(2, "1 @= v;");
        dueIn(2, "(v) @= 1;");
        dueIn(2, "-v @= 1;");
        dueIn(2, "v + v @= 1;");
        dueIn(2, "g() @= 1;");
        dueIn(2, "v ? v : v @= 1;");
        fineIn("v ? v = 1 : v; v = v ? 1 : 2; v = r[v = 1] = v += 1;");
        dueIn(2, "v ? v @;");
        dueIn(2, "v @: v;");
        dueIn(2, "v = (v@;");
        dueIn(2, "v = v@);");
        dueIn(2, "v = r[v@;");
        dueIn(2, "v = f(v @v);");
        dueIn(2, "v = f(v, @);");
        dueIn(2, "v = f(@, v);");
        dueIn(2, "v = v @! v;");
        dueIn(2, "v = @+ v;");
        dueIn(2, "int @int;");
        dueIn(2, "int x @[3];");
        dueIn(2, "int x@, y;");
        dueIn(2, "int x = @;");
        dueIn(2, "int x @+= 1;");
        due(2, "int f() { { } @");
        due(2, "int f() { 1 +@");
    }

    private static void names() {
        due(3, "int a; int @a;");
        due(3, "int a; int @a[2];");
        due(3, "int a() { } int @a;");
        due(3, "int a; int @a() { }");
        due(3, "int a() { } int @a() { }");
        due(3, "int a; int @a $");
        fine("int a; int A; int f(int a, int f) { int A; { int a; int f; { int a; } int A; } { int a; } }");
        due(3, "int f(int a, int @a) { }");
        due(3, "int f(int a) { int @a; }");
        due(3, "int f() { int a; int b; int @a; }");
        due(3, "int f() { { int a; int @a; } }");
        due(3, "int f() { int a; { int b; } int @a; }");
        due(3, "int f(int a) { { int b; } int @a; }");
        due(3, "int f() { int a; if (1) int b; int @a; }");
        due(3, "int f() { int a; while (1) { int b; } int @a; }");
        fine("int f() { { int a; } int a; }");
        due(3, "int f() { return @a; }");
        due(3, "int f() { return @a; } int a;");
        due(3, "int f() { return @f; }");
        due(3, "int f() { return @a + $; }");
        due(3, "int f() { { int a; } return @a; }");
        due(3, "int f() { int a = @a; }");
        due(3, "int f() { int a = @b; int b; }");
        fine("int a; int f() { int a = a; int b = a; }");
        due(3, "int g(int a) { } int f() { return @a; }");
        due(3, "int f() { if (1) int a; @a = 1; }");
        due(3, "int f() { if (1) ; else int a; @a = 1; }");
        due(3, "int f() { while (0) int a; @a = 1; }");
        due(3, "int f() { for (;;) int a; @a = 1; }");
        due(3, "int f() { do int a; while (@a); }");
        fine("int f(int a) { if (1) int a; else int a; while (a) int a; do int a; while (a); for (a; a; a) int a; int b; }");
        fine("int f() { if (1) int a; int a; if (1) int a = a; }");
        dueIn(3, "@r = 1;");
        dueIn(3, "return @r;");
        dueIn(3, "return @r");
        dueIn(3, "return @r $");
        dueIn(3, "return @v[0];");
        dueIn(3, "return @p[0];");
        dueIn(3, "return @u[0];");
        dueIn(3, "return @u $");
        dueIn(3, "@u = 1;");
        fineIn("int r; r = 1;");
        dueIn(3, "int r; @r[0] = 1;");
        dueIn(3, "return @v(1);");
        dueIn(3, "return @r(1);");
        dueIn(3, "return @p(1);");
        dueIn(3, "int f; return @f(1);");
        dueIn(3, "{ int f; } return @u + f(1);");
        fineIn("{ int f; } return f(1);");
        due(2, "int u @u() { }");
        due(3, "int u; int @u u");
    }

    private static void calls() {
        fine("int f() { return g(1); } int g(int a) { return f(); }");
        due(3, "int f() { return @g(1); }");
        due(3, "int f() { return @g(1); } int g;");
        due(4, "int f() { return @g(1); } int g() { }");
        due(4, "int f() { return @f(1); }");
        due(4, "int f(int a) { return @f(); }");
        due(4, "int f(int a) { return @f(1, 2); }");
        due(3, "int f(int a) { return f(@g(1)); }");
        due(3, "int f(int a) { @g(); f(); }");
        due(4, "int f(int a) { @f(); g(); }");
        due(4, "int f(int a) { @f(1, g()); }");
        due(2, "int f(int a) { f(); g(); @) }");
        due(6, "int f(int a) { f(); @break; }");
        String many = ("f(".repeat(39) + "1" + ")".repeat(39) + "; ").repeat(11);
        fineIn(many);
        dueIn(3, many + "@zz();");
        dueIn(4, many + "@f();");
    }

    private static void numbersAndRows() {
        fineIn("return 2147483647;");
        dueIn(5, "return @2147483648;");
        dueIn(5, "return -@2147483648;");
        dueIn(5, "return @9999999999;");
        dueIn(2, "return 1 @2147483648;");
        fineIn("return 0xffffffff;");
        fine("int a[1]; int b[1000]; int c[0x3e8]; int d[0000000001];");
        due(5, "int a[@0];");
        due(5, "int a[@1001];");
        due(5, "int a[@0xffffffff];");
        due(5, "int a[@2147483648];");
        due(5, "int a[@0;");
        due(2, "int a[@'a'];");
        due(2, "int a[@-1];");
        due(2, "int a[@];");
        due(2, "int a[1@;");
        due(2, "int a[1]@");
        due(2, "int a[2] @[2];");
    }

    private static void items() {
        fine(many(40, "int f", "(){}") + many(60, "int g", ";"));
        due(5, many(40, "int f", "(){}") + "int @f(){}");
        due(3, many(40, "int f", "(){}") + "int @f1(){}");
        due(5, many(40, "int f", "(){}") + "int @f($");
        due(2, many(40, "int f", "(){}") + "int f @)");
        due(5, many(60, "int g", ";") + "int @g;");
        due(5, many(60, "int g", "[1];") + "int @g[0];");
        due(3, many(60, "int g", ";") + "int @g1;");
        due(2, many(60, "int g", ";") + "int g @=");
        fine(many(60, "int g", ";") + "int g(){}");
        fine(many(40, "int f", "(){}") + "int f;");
    }

    private static void parametersAndArguments() {
        String eight = "int a, int b, int c, int d, int e, int f, int g, int h";
        fine("int k(" + eight + ") { return k(1, 2, 3, 4, 5, 6, 7, 8); }");
        due(5, "int k(" + eight + ", int @i) { }");
        due(3, "int k(" + eight + ", int @a) { }");
        due(2, "int k(" + eight + ", @i) { }");
        String seven = "1, 2, 3, 4, 5, 6, 7, ";
        dueIn(5, "f(" + seven + "8, @9);");
        dueIn(5, "f(" + seven + "8, @-9);");
        dueIn(5, "f(" + seven + "8, @(9));");
        dueIn(5, "f(" + seven + "8, @v);");
        dueIn(5, "f(" + seven + "8, @u());");
        dueIn(5, "f(" + seven + "8, @get());");
        dueIn(5, "f(" + seven + "8, @'a');");
        dueIn(5, "f(" + seven + "8, @9999999999);");
        dueIn(3, "f(" + seven + "8, @u);");
        dueIn(3, "f(" + seven + "8, @r);");
        dueIn(2, "f(" + seven + "8, @);");
        dueIn(1, "f(" + seven + "8, @$);");
        dueIn(5, "f(" + seven + "f(1), @v = 2);");
    }

    private static void open() {
        // The { of the function is the first one open.
        fineIn("(".repeat(39) + "1" + ")".repeat(39) + ";");
        dueIn(5, "(".repeat(39) + "@(1" + ")".repeat(40) + ";");
        fineIn("- ".repeat(13) + "!".repeat(13) + "~".repeat(13) + "1 + -1;");
        dueIn(5, "- ".repeat(39) + "@- 1;");
        dueIn(5, "- ".repeat(39) + "@(1);");
        dueIn(5, "- ".repeat(39) + "r@[1];");
        dueIn(5, "- ".repeat(39) + "f@(1);");
        dueIn(5, "- ".repeat(39) + "get@();");
        dueIn(3, "- ".repeat(39) + "@r(1);");
        fineIn("v = ".repeat(39) + "1;");
        dueIn(5, "v = ".repeat(39) + "v @= 1;");
        dueIn(5, "v = ".repeat(39) + "v @+= 1;");
        dueIn(5, "v = ".repeat(39) + "v @? 1 : 2;");
        fineIn("v ? 1 : ".repeat(39) + "1;");
        dueIn(5, "v ? 1 : ".repeat(39) + "v @? 1 : 1;");
        dueIn(5, "v ? ".repeat(39) + "@-1" + " : 1".repeat(39) + ";");
        fineIn("v ? ".repeat(39) + "1" + " : 1".repeat(39) + ";");
        fineIn("r[".repeat(39) + "1" + "]".repeat(39) + ";");
        dueIn(5, "r[".repeat(39) + "r@[1" + "]".repeat(40) + ";");
        fineIn("f(".repeat(39) + "1" + ")".repeat(39) + ";");
        dueIn(5, "f(".repeat(39) + "f@(1" + ")".repeat(40) + ";");
        fineIn("{".repeat(39) + "}".repeat(39));
        dueIn(5, "{".repeat(39) + "@{" + "}".repeat(40));
        // Its parentheses are open beside an if, while, do, for.
        fineIn("if (v) ".repeat(38) + "v;");
        fineIn("if (v) ".repeat(38) + "{ }");
        dueIn(5, "if (v) ".repeat(38) + "if @(v) ;");
        dueIn(5, "{".repeat(39) + "@if (v) ;" + "}".repeat(39));
        dueIn(5, "while (v) ".repeat(38) + "while @(v) ;");
        dueIn(5, "{".repeat(39) + "@while (v) ;" + "}".repeat(39));
        dueIn(5, "{".repeat(39) + "@for (;;) ;" + "}".repeat(39));
        dueIn(5, "{".repeat(38) + "for @(;;) ;" + "}".repeat(38));
        dueIn(5, "{".repeat(39) + "@do ; while (v);" + "}".repeat(39));
        dueIn(5, "{".repeat(38) + "do ; while @(v);" + "}".repeat(38));
        fineIn("{".repeat(37) + "do ; while (v);" + "}".repeat(37));
        dueIn(5, "{".repeat(39) + "put@(v);" + "}".repeat(39));
        fineIn("{".repeat(39) + "int x = 1;" + "}".repeat(39));
        dueIn(5, "{".repeat(39) + "int x = @-1;" + "}".repeat(39));
        fineIn("if (v) ; else ".repeat(38) + ";");
        dueIn(5, "if (v) ; else ".repeat(38) + "if @(v) ;");
        // What has ended is not open any more.
        fineIn("for (;;) ".repeat(38) + ";");
        fineIn("while (v) ".repeat(38) + ";");
        fineIn("do ".repeat(37) + ";" + " while (v);".repeat(37));
        fineIn("get(); ".repeat(41) + "put(1); ".repeat(41) + "f(1); ".repeat(41) + "r[1]; ".repeat(41));
        fineIn("do ; while (v); ".repeat(41) + "while (v) ; ".repeat(41) + "for (;;) ; ".repeat(41));
        fineIn("(v); ".repeat(41) + "!v; ".repeat(41) + "~v; ".repeat(41) + "r[1] += 1; ".repeat(41));
        fine(many(40, "int f", "(int a, int b) { { } }") + many(41, "int g", "[1];"));
        fineIn("if (v) ; ".repeat(41) + "v = 1; ".repeat(41) + "-1 + -1; ".repeat(41));
        fineIn("v ? 1 : 2; ".repeat(41) + "{ } ".repeat(41) + "if (v) ; else ; ".repeat(41));
    }

    private static void slots() {
        // 1 parameter, 400 locals; 99 slots are left, 96 are used.
        String most = locals(400) + deep(96, "");
        String head = most.substring(0, most.length() - 13);
        String tail = ")".repeat(12) + ";";
        fineIn(head + "1|1^1&1" + tail);
        dueIn(5, head + "1|1^1&1@+1" + tail);
        dueIn(5, head + "1|1^1&1@==1" + tail);
        fineIn(head + "1|1^1&1&&1" + tail);
        fineIn(head + "1|1^(1&1?1:1||1)" + tail);
        fineIn(head + "1|1^f(1)" + tail);
        dueIn(5, head + "1|1^1&f(@1)" + tail);
        dueIn(3, head + "1|1^1&f(@u)" + tail);
        dueIn(5, head + "1|1^1&f(@u())" + tail);
        dueIn(5, head + "1|1^f(1,@1)" + tail);
        dueIn(5, head + "1|1^f(1+1,@1)" + tail);
        dueIn(4, head + "1|@f(1,1)" + tail);
        fineIn(head + "1|1^(v=v+=1)" + tail);
        dueIn(5, head + "1|1^(v+=v@+=1)" + tail);
        fineIn(head + "1|1^(v+=v=1)" + tail);
        fineIn(head + "1|1^(r[0]=v=1)" + tail);
        dueIn(5, head + "1|1^(r[0]=v@+=1)" + tail);
        dueIn(5, head + "1|1^(r[0]@+=1)" + tail);
        fineIn(head + "1|(r[0]+=1)" + tail);
        fineIn(head + "1|1^(r[1+1]=1)" + tail);
        // As locals end their slots are free again.
        fine("int f() {" + locals(490) + "{ int x; int y; int z; }" + "{ int x; int y; int z; }" + "}");
        fine("int f() {" + locals(491) + "int x = 1 + 1;" + "}");
        PocketCompiler x = Check.loaded(WORDS, HEAD + head + "1|1^1&1" + tail + " }");
        CHECK.same("FRAME of 500 slots", x.function(1, 2), 2008);
    }

    private static void tokenCount() {
        // HEAD has 22 tokens.
        String full = ";".repeat(1478);
        fineIn(full.substring(1));
        dueIn(5, full + "@;");
        due(5, HEAD + full + "@}");
        due(5, HEAD + full + "@v = 1; }");
        due(3, HEAD + full + "@u = 1; }");
        due(3, HEAD + full + "@r = 1; }");
        due(5, HEAD + full + "@r[0] = 1; }");
        due(3, HEAD + full + "@r(0); }");
        due(2, HEAD + full + "@else }");
        due(1, HEAD + full + "@$ }");
        due(5, HEAD + full + "@break; }");
        due(5, HEAD + full + "// a note\n@} // $");
        due(2, HEAD + full + "@");
        due(3, HEAD + full.substring(2) + "} int @r");
        due(5, HEAD + full.substring(2) + "} int @s");
        due(5, HEAD + full.substring(2) + "} int @s $");
        due(2, HEAD + full.substring(1) + "} @s");
    }

    private static void loops() {
        dueIn(6, "@break;");
        dueIn(6, "@continue;");
        dueIn(6, "@break $");
        dueIn(6, "while (v) ; @break;");
        dueIn(6, "if (v) @continue; while (v) ;");
        dueIn(6, "do ; while (v); { @break; }");
        fineIn("while (v) break; do continue; while (v); for (;;) { if (v) { break; } else continue; }");
        due(6, "int f() { while (1) { } } int g() { @break; }");
        due(3, "int f() { @a(); } int g() { }");
        due(6, "int f() { a(); } int g() { @break; }");
    }

    private static void room() {
        // 16 words of code, and globals up to 64 bytes ahead of the memory's end.
        PocketCompiler x = new PocketCompiler(256);
        CHECK.same("just enough", Check.load(x, "int r[224]; int f() { } "), 0);
        CHECK.same("LIMIT", x.count(4), 960);
        CHECK.same("a word too much", Check.load(x, "int r[225]; int f() { } "), 7);
        CHECK.same("at the text's length", x.fault(1), 24);
        CHECK.same("what is loaded stays", x.count(4), 960);
        CHECK.same("3 comes first", Check.load(x, "int r[1000]; int f() { g(); } "), 3);
        String code = "int f() {" + "r[0]%=1;".repeat(210) + "}";
        PocketCompiler y = new PocketCompiler(WORDS);
        CHECK.same("room in the most memory", Check.load(y, "int r[3];" + code), 0);
        CHECK.same("no room in the least memory", Check.load(x, "int r[3];" + code), 7);
        CHECK.same("its place", x.fault(1), code.length() + 9);
        String more = "r[".repeat(39) + "1" + "]".repeat(39) + ";";
        dueIn(0, more.repeat(11));
        due(7, HEAD + more.repeat(12) + " }@");
    }
}
