/** Terms 1, FAULTS: every bound at the last text within it and at the first one beyond, and where the fault is. */
public final class BoundEdgesTest extends FaultChecks {
    private static final String[] OPERATORS = {"|", "^", "&", "==", "!=", "<", "<=", ">", ">=", "<<", ">>", "+", "-", "*",
        "/", "%"};
    private static final String[] SETS = {"+=", "-=", "*=", "/=", "%=", "&=", "|=", "^=", "<<=", ">>="};

    public static void main(String[] args) {
        numbers();
        rows();
        parameters();
        functions();
        globals();
        arguments();
        opens();
        whatIsOpenNoMore();
        slotsOfOperators();
        slotsOfSets();
        slotsOfArguments();
        mostSlotsWork();
        tokens();
        leastNumberOfOneToken();
        endsTooEarly();
        loops();
        behindAll();
        room();
        CHECK.end();
    }

    /** "a NUMBER in digits above 2147483647". */
    private static void numbers() {
        fineIn("return 2147483647;");
        dueIn(5, "return @2147483648;");
        dueIn(5, "return @2147483649;");
        dueIn(5, "return @4294967295;");
        dueIn(5, "return @4294967296;");
        dueIn(5, "return @4294967297;");
        dueIn(5, "return @9999999999;");
        dueIn(5, "return -@2147483648;");
        dueIn(5, "v = r[@2147483648];");
        dueIn(5, "f(@2147483648);");
        fineIn("return 0x80000000 + 0xffffffff;");
        dueIn(2, "return v @2147483648;");
    }

    /** "a row of not 1 to 1000". */
    private static void rows() {
        due(5, "int a[@0];");
        fine("int a[1];");
        fine("int a[2];");
        fine("int a[999];");
        fine("int a[1000];");
        due(5, "int a[@1001];");
        due(5, "int a[@0000000000];");
        due(5, "int a[@0x0];");
        fine("int a[0x1];");
        fine("int a[0x3E8];");
        due(5, "int a[@0x3E9];");
        due(5, "int a[@0xFFFFFFFF];");
        due(5, "int a[@0x80000001];");
        due(5, "int a[@2147483647];");
        due(5, "int a[@2147483648];");
        due(5, "int a[@4294967297];");
        due(5, "int v; int w; int a[@0]; int b[0];");
    }

    private static String list(int count, String before, String last) {
        StringBuilder text = new StringBuilder();
        for (int k = 1; k < count; k++) {
            text.append(before).append("abcdefghijkl".charAt(k)).append(", ");
        }
        return text + last;
    }

    /** "a ninth parameter .. at its NAME". */
    private static void parameters() {
        for (int count = 1; count <= 8; count++) {
            fine("int k(" + list(count, "int ", "int z") + ") { }");
            PocketCompiler x = Check.loaded(256, "int k(" + list(count, "int ", "int z") + ") { }");
            CHECK.same("parameters", x.function(0, 0), count);
        }
        due(5, "int k(" + list(9, "int ", "int @z") + ") { }");
        due(5, "int k(" + list(9, "int ", "int @z") + ", int y) { }");
        due(5, "int k(" + list(9, "int ", "int @z $"));
        due(5, "int k() { } int l(int a) { } int m(" + list(9, "int ", "int @z") + ") { }");
        fine("int k(" + list(8, "int ", "int z") + ") { } int l(" + list(8, "int ", "int z") + ") { int y; }");
        // Locals are no parameters.
        fine("int k(" + list(8, "int ", "int z") + ") { int y; int x; }");
    }

    /** "a 41st function (a ( behind its NAME makes it one) .. at its NAME". */
    private static void functions() {
        String forty = many(40, "int f", "(){}");
        fine(many(39, "int f", "(){}") + "int g(){}");
        fine(forty);
        fine(forty + "int g; int h[1];");
        due(5, forty + "int @g(){}");
        due(5, forty + "int @g(");
        due(5, forty + "int g; int @h(int a){}");
        due(2, forty + "int g@{}");
        due(2, forty + "int g@");
        due(2, forty + "int g @h(");
        due(3, forty + "int @f39(){}");
    }

    /** "a 61st global (a [ or ; does), at its NAME". */
    private static void globals() {
        String sixty = many(60, "int g", ";");
        String rows = many(60, "int g", "[1];");
        fine(many(59, "int g", ";") + "int h;");
        fine(many(59, "int g", "[1];") + "int h[1];");
        fine(sixty + "int f(){}");
        due(5, sixty + "int @h;");
        due(5, sixty + "int @h[1];");
        due(5, rows + "int @h;");
        due(5, rows + "int @h[1];");
        due(5, rows + "int @h[");
        due(5, sixty + "int f(){} int @h;");
        due(2, sixty + "int h@");
        due(2, sixty + "int h@,");
        due(2, sixty + "int h @i;");
        due(3, sixty + "int @g59;");
    }

    /** "a ninth E of a call (at its first token)". */
    private static void arguments() {
        String head = "int v; int r[3]; int k(" + list(8, "int ", "int z") + ") { } int f() { ";
        String eight = "1, 2, 3, 4, 5, 6, 7, 8";
        due(0, head + "k(" + eight + "); }");
        due(4, head + "@k(" + eight.substring(3) + "); }");
        due(5, head + "k(" + eight + ", @9); }");
        due(5, head + "k(" + eight + ", @9, 10); }");
        due(5, head + "k(" + eight + ", @v + 1); }");
        due(5, head + "k(" + eight + ", @r[0]); }");
        due(5, head + "k(" + eight + ", @(1)); }");
        due(5, head + "k(" + eight + ", @-1); }");
        due(5, head + "k(" + eight + ", @!1); }");
        due(5, head + "k(" + eight + ", @~1); }");
        due(5, head + "k(" + eight + ", @'a'); }");
        due(5, head + "k(" + eight + ", @get()); }");
        due(5, head + "k(" + eight + ", @f()); }");
        due(5, head + "k(" + eight + ", @v = 1); }");
        due(5, head + "f(" + eight + ", @9); }");
        due(2, head + "k(" + eight + ", @); }");
        // Each call has its own; one within another does not add to it.
        due(0, head + "k(" + eight.replace("3", "k(" + eight + ")") + "); k(" + eight + "); }");
        due(5, head + "k(" + eight.replace("8", "k(" + eight + ")") + ", @9); }");
        due(5, head + "k(k(" + eight + ", @9), 2); }");
    }

    /** So many are open where the stat stands: the { of the function and blocks in it. */
    private static void dueDeep(int fault, int open, String stat) {
        dueIn(fault, "{".repeat(open - 1) + stat + "}".repeat(open - 1));
    }

    /** "a 41st of these OPEN", each of them as the 40th and as the 41st one. */
    private static void opens() {
        String[] one = {"@(1);", "r@[1];", "@{}", "@-1;", "@!1;", "@~1;", "v@?1:1;", "v@=1;", "p@=1;", "get@();", "g@();",
            "f@(1);", "put@(1);", "1+@-1;", "int x=@-1;", "return @(1);", "1*@(1);"};
        for (String stat : one) {
            dueDeep(0, 39, stat.replace("@", ""));
            dueDeep(5, 40, stat);
        }
        for (String set : SETS) {
            dueDeep(0, 39, "v" + set + "1;");
            dueDeep(5, 40, "v@" + set + "1;");
            dueDeep(0, 39, "r[1]" + set + "1;");
            dueDeep(5, 39, "r[1]" + set + "@-1;");
        }
        String[] two = {"-@(1);", "-@-1;", "!@~1;", "-r@[1];", "-f@(1);", "-get@();", "v?@-1:1;", "v?1:@-1;", "v?1:v@?1:1;",
            "v?v@=1:1;", "v=@-1;", "v=v@=1;", "v=v@?1:1;", "v+=@-1;", "r[1]=@-1;", "(@-1);", "(@(1));", "r[@-1];", "r[r@[1]];",
            "r[v@=1];", "(v@=1);", "(v@?1:1);", "f(@-1);", "f(v@=1);", "put(@-1);", "{@-1;}", "{@{}}", "if@(v);", "while@(v);",
            "for@(;;);", "do;while@(v);", "do @-1;while(v);", "do @{}while(v);"};
        for (String stat : two) {
            dueDeep(0, 38, stat.replace("@", ""));
            dueDeep(5, 39, stat);
        }
        String[] three = {"if(v)-@-1;", "if(v);else -@-1;", "while(v)-@-1;", "for(;;)-@-1;", "for(@-1;;);", "for(;@-1;);",
            "for(;;@-1);", "do -@-1;while(v);", "do;while(@-1);", "if(@-1);", "while(@-1);", "if(v)if@(v);", "if(v);else if@(v);",
            "while(v)while@(v);", "for(;;)for@(;;);", "do do;while@(v);while(v);", "if(v){@-1;}"};
        for (String stat : three) {
            dueDeep(0, 37, stat.replace("@", ""));
            dueDeep(5, 38, stat);
        }
        for (String stat : new String[] {"@if(v);", "@while(v);", "@for(;;);", "@do;while(v);"}) {
            dueDeep(5, 40, stat);
        }
    }

    /** "until they are closed", "until that ends", "until what they begin ends", "until that whole stat ends". */
    private static void whatIsOpenNoMore() {
        String[] none = {";", "1;", "v;", "v+v*v;", "v&&v||v;", "v<v;", "int x;", "int x=1;", "return;", "return v;"};
        for (String stat : none) {
            dueDeep(0, 40, stat);
        }
        String[] one = {"(1)+(1);", "(1);(1);", "r[1]+r[1];", "{}{}", "-1+-1;", "!1-~1;", "-1;!1;~1;", "v?1:1;v?1:1;",
            "v=1;v=1;v+=1;v+=1;", "get()+get();", "g()+g();", "f(1)+f(1);", "put(1);put(1);", "int x=-1;int y=(1);", "-1*(1);",
            "-v+r[1];", "-1?1:1;", "(1)?1:1;", "r[1]?1:1;", "r[1]=1;", "g()?1:1;", "v=1;-1;", "v?1:1;-1;", "-1<-1==-1;",
            "-1;{}", "int x=1;v=1;"};
        for (String stat : one) {
            dueDeep(0, 39, stat);
        }
        String[] two = {"if(v)-1;", "if(v);else -1;", "if(v)-1;else -1;", "if(v);-(1);", "if(v);else;-(1);", "while(v)-1;",
            "while(v);-(1);", "do -1;while(v);", "do;while(v);-(1);", "for(v;v;v);", "for(;;)-1;", "for(;;);-(1);",
            "if(v);if(v);else;while(v);do;while(v);for(;;);", "v?(1):1;", "v?(1):(1);", "f(-1)-(-1);",
            "v=(1)+(1);", "(-1)+(-1);", "{-1;}{(1);}", "r[-1]=-1;", "if(v){}else{}"};
        for (String stat : two) {
            dueDeep(0, 38, stat);
        }
        // Each item opens anew.
        fine(many(40, "int f", "(int a){{}}"));
        fine(many(60, "int g", "[1];"));
        // "the while of a do is none of these, nor is the = of an int".
        dueDeep(0, 38, "do;while(1);");
        dueDeep(5, 38, "do;while(@-1);");
        dueDeep(0, 39, "int x=-1;");
        dueDeep(5, 39, "int x=-@-1;");
    }

    /** An E where so many slots, 497 to 500, are known or put by; it stands in ( ). */
    private static String slotted(int slots, String e) {
        String before = locals(400) + deep(96, "");
        String open = before.substring(0, before.length() - 13);
        return open + "1|1^1&".substring(0, 2 * (slots - 497)) + "(" + e + ")" + ")".repeat(12) + ";";
    }

    private static void dueSlotted(int fault, int slots, String e) {
        dueIn(fault, slotted(slots, e));
    }

    /** "a 501st SLOT (at .. an operator's .. sign ..)"; what puts nothing by wants none. */
    private static void slotsOfOperators() {
        for (String operator : OPERATORS) {
            dueSlotted(0, 499, "v" + operator + "v");
            dueSlotted(5, 500, "v@" + operator + "v");
            dueSlotted(0, 499, "v" + operator + "v" + operator + "v");
            dueSlotted(5, 499, "v" + operator + "(v@" + operator + "v)");
        }
        String[] none = {"v", "p", "1", "-v", "!v", "~v", "v&&v", "v||v", "v?v:v", "get()", "g()", "r[1]", "(v)", "v=1", "p=1"};
        for (String e : none) {
            dueSlotted(0, 500, e);
        }
        dueSlotted(5, 500, "r[v@+v]");
        dueSlotted(5, 500, "v&&v@+v");
        dueSlotted(5, 500, "v?v@+v:v");
        dueSlotted(5, 500, "v?v:v@+v");
    }

    /** "a 501st SLOT (at .. a SET's sign ..)". */
    private static void slotsOfSets() {
        for (String set : SETS) {
            for (String place : new String[] {"v", "p"}) {
                dueSlotted(0, 499, place + set + "1");
                dueSlotted(5, 500, place + "@" + set + "1");
                dueSlotted(0, 498, place + set + "v" + set + "1");
                dueSlotted(5, 499, place + set + "v@" + set + "1");
            }
            dueSlotted(0, 498, "r[1]" + set + "1");
            dueSlotted(5, 499, "r[1]@" + set + "1");
            dueSlotted(5, 500, "r[1]@" + set + "1");
        }
        dueSlotted(0, 499, "r[1]=1");
        dueSlotted(5, 500, "r[1]@=1");
        dueSlotted(0, 499, "r[v+v]=1");
        dueSlotted(5, 499, "r[1]=v@+v");
        dueSlotted(0, 500, "v=p=v=1");
    }

    /** "a 501st SLOT (at .. an argument's first token)". */
    private static void slotsOfArguments() {
        dueSlotted(0, 499, "f(1)");
        dueSlotted(0, 499, "f(v+v)");
        for (String first : new String[] {"1", "v", "-v", "(v)", "g()", "r[1]", "get()", "'a'", "v+v", "v=1", "zz()"}) {
            dueSlotted(5, 500, "f(@" + first + ")");
            dueSlotted(5, 499, "f(1,@" + first + ")");
        }
        dueSlotted(4, 498, "@f(1,1)");
        dueSlotted(0, 498, "f(f(f(1)))");
        dueSlotted(5, 500, "g(@1)");
        dueSlotted(0, 500, "g()");
        dueSlotted(3, 500, "f(@zz)");
        dueSlotted(2, 500, "f(@,1)");
    }

    /** Slot 499, the 500th, is a slot like others: FRAME and code reach it. */
    private static void mostSlotsWork() {
        for (String body : new String[] {slotted(500, "p"), slotted(499, "p*3"), slotted(498, "3-f(0)")}) {
            String whole = "int f(int p) { if (p == 0) return 9; " + body.replace(";1|", "; return 1|") + " }";
            PocketCompiler x = new PocketCompiler(4096);
            CHECK.same("load", Check.load(x, whole), 0);
            CHECK.same("FRAME", x.function(0, 2), 2008);
            CHECK.same("work", x.work(0, 77, 0, 10), 0);
            x.start(0, 77, 0);
            x.run(50000);
            CHECK.same("status", x.count(5), 1);
            CHECK.same("A7", x.count(10), 0);
            CHECK.same("result", x.result(), x.told(1));
        }
    }

    /** "the 1501st token", whatever it is that could stand there. */
    private static void tokens() {
        // HEAD has 22 tokens; the last one of the text is the } of f.
        String[] body = ("int x ; int y = 1 ; if ( x ) y = - x ; else y += ! x ; while ( 0 ) { break ; continue ; } do ; "
            + "while ( 0 ) ; for ( x = 1 ; x ; x = 0 ) ; put ( get ( ) ) ; r [ 1 ] = f ( 'a' ) ; x ? y : ~ x ; return "
            + "x || y && x | y ^ x & y == x < y << 2 + 3 * 4 ; } int w ; int s [ 2 ] ; int h ( int a , int b ) { }").split(" ");
        for (int k = 0; k < body.length; k++) {
            StringBuilder text = new StringBuilder(HEAD + ";".repeat(1478 - k));
            int place = 0;
            for (int at = 0; at < body.length; at++) {
                place = at == k ? text.length() + 1 : place;
                text.append(' ').append(body[at]);
            }
            dueAt(5, place, text.toString());
        }
        fine(HEAD + ";".repeat(1478 - body.length) + " " + String.join(" ", body));
        dueAt(5, HEAD.length() + 1480, HEAD + ";".repeat(1477) + " } int");
        fine(HEAD + ";".repeat(1477) + "}" + " // int v".repeat(10));
        fine(many(60, "int g", ";") + "int f(){" + ";".repeat(1500 - 186) + "}");
        due(5, many(60, "int g", ";") + "int f(){" + ";".repeat(1500 - 185) + "@}");
    }

    /** "of one token the least number". */
    private static void leastNumberOfOneToken() {
        String full = HEAD + ";".repeat(1478);
        String forty = many(40, "int f", "(){}");
        String sixty = many(60, "int g", ";");
        String eight = "f(1, 2, 3, 4, 5, 6, 7, 8, ";
        // 1 and 2.
        due(1, "@$");
        due(1, "int f() { @0x }");
        due(1, "int f( @12345678901");
        // 1 and 5.
        due(1, full + "@$");
        dueIn(1, eight + "@$);");
        dueIn(1, eight + "@'");
        // 2 and 3: an unknown name, a name told again where no name can stand.
        dueIn(2, "v @zz;");
        dueIn(2, "if @zz;");
        due(2, "int a; @a;");
        due(2, "int a; int f() @a");
        due(2, "int f(@zz) { }");
        // 2 and 5: a huge number, an opening sign, one token too many, a missing E.
        dueIn(2, "v @2147483648;");
        due(2, "int @2147483648;");
        dueDeep(2, 40, "1 @(1);");
        dueDeep(2, 40, "v @{}");
        dueDeep(2, 40, "1 @= 1;");
        dueDeep(2, 40, "@[1];");
        dueDeep(2, 40, "v @if(v);");
        due(2, full + "@)");
        due(2, full + "@else");
        due(2, full + "@");
        dueIn(2, eight + "@);");
        dueIn(2, eight + "@;");
        // 2 and 6: a break where no stat can stand.
        dueIn(2, "v = @break;");
        dueIn(2, "v @continue;");
        due(2, "@break;");
        // 3 and 5: told again or unknown beyond a bound.
        due(3, forty + "int @f7() { }");
        due(3, forty + "int g; int @g() { }");
        due(3, sixty + "int @g7;");
        due(3, sixty + "int @g7[2];");
        due(3, "int k(" + list(9, "int ", "int @b") + ") { }");
        dueIn(3, eight + "@zz);");
        dueIn(3, eight + "@r);");
        dueIn(3, eight + "@v[1]);");
        dueIn(3, eight + "@v(1));");
        due(3, full + "@zz;");
        due(3, full + "@v[1];");
        due(3, full + "@p(1);");
        due(3, HEAD + ";".repeat(1477) + "int @p;");
        due(3, HEAD + ";".repeat(1476) + "} int @v;");
        dueSlotted(3, 500, "f(@r)");
        // 5 and 6.
        due(5, full + "@break;");
        due(5, full + "@continue;");
    }

    /** "At the token, or the text's length where it ends too early": a text cut off behind each of its tokens. */
    private static void endsTooEarly() {
        String text = "int v ; int r [ 3 ] ; int f ( int a , int b ) { int x ; int y = - 1 ; if ( x ) ; else { } while ( 0 ) break ; "
            + "do continue ; while ( v ) ; for ( x ; x ; x ) ; put ( get ( ) ) ; x = f ( 1 , 2 ) ? r [ 1 ] : 2 ; r [ 1 ] += x && y ; "
            + "return x ; } int g ( ) { return ; }";
        String[] tokens = text.split(" ");
        String cut = "";
        int depth = 0;
        for (int k = 0; k < tokens.length - 1; k++) {
            depth += tokens[k].equals("{") ? 1 : tokens[k].equals("}") ? -1 : 0;
            int last = cut.length();
            cut = cut + tokens[k];
            boolean isItem = depth == 0 && (tokens[k].equals(";") || tokens[k].equals("}"));
            boolean isNone = depth > 0 && (tokens[k].equals("f") || tokens[k].equals("r"));
            for (String behind : new String[] {"", " ", " \n// note", "\n\t "}) {
                dueAt(isItem ? 0 : isNone ? 3 : 2, isItem ? -1 : isNone ? last : (cut + behind).length(), cut + behind);
            }
            cut = cut + " ";
        }
        fine(text);
    }

    /** "6 LOOP: break, continue with no loop around (at it)". */
    private static void loops() {
        for (String jump : new String[] {"break;", "continue;"}) {
            dueIn(6, "@" + jump);
            dueIn(6, "{ @" + jump + " }");
            dueIn(6, "if (v) @" + jump);
            dueIn(6, "if (v) ; else @" + jump);
            for (String loop : new String[] {"while (v) %", "do % while (v);", "for (;;) %"}) {
                fineIn(loop.replace("%", jump));
                fineIn(loop.replace("%", "{ if (v) { { " + jump + " } } else " + jump + " }"));
                fineIn(loop.replace("%", loop.replace("%", jump)));
                dueIn(6, loop.replace("%", ";") + " @" + jump);
                dueIn(6, loop.replace("%", jump) + " @" + jump);
                dueIn(6, "@" + jump + loop.replace("%", jump));
                fineIn(loop.replace("%", "{ " + loop.replace("%", jump) + jump + " }"));
                dueIn(6, loop.replace("%", "{ " + loop.replace("%", jump) + jump + " }") + "@" + jump);
            }
        }
        due(6, "int f() { while (1) { } } int g() { @break; }");
    }

    /** "If there is none of these, behind all, the first by its place of: 3 a call of no function .. 4 ARGUMENTS". */
    private static void behindAll() {
        String tail = " int one(int a) { } int two(int a, int b) { } int none() { }";
        due(0, "int f() { one(1); two(1, 2); none(); }" + tail);
        due(4, "int f() { @one(); }" + tail);
        due(4, "int f() { @one(1, 2); }" + tail);
        due(4, "int f() { @two(1); }" + tail);
        due(4, "int f() { @two(1, 2, 3); }" + tail);
        due(4, "int f() { @none(1); }" + tail);
        due(3, "int f() { @zz(1); }" + tail);
        due(3, "int f() { @one2(1); }" + tail);
        // The first by its place, whichever it is, and whichever way round they stand in one another.
        due(3, "int f() { @zz(); one(); }" + tail);
        due(4, "int f() { @one(); zz(); }" + tail);
        due(4, "int f() { @one(zz(), 1); }" + tail);
        due(3, "int f() { @zz(one()); }" + tail);
        due(3, "int f() { one(@zz(one())); }" + tail);
        due(4, "int f() { one(@one(zz(), 2)); }" + tail);
        // Every other fault comes ahead of them, wherever it is.
        due(1, "int f() { zz(); one(); }" + tail + " @$");
        due(2, "int f() { zz(); one(); }" + tail + " int@");
        due(3, "int f() { zz(); one(); }" + tail + " int @f;");
        due(5, "int f() { zz(); one(); }" + tail + " int r[@0];");
        due(6, "int f() { zz(); one(); @break; }" + tail);
        // A global that is told later is no function; a local that is gone hides none.
        due(3, "int f() { @later(); } int later;");
        due(3, "int f() { @later(); } int later[1];");
        due(0, "int f() { { int one; one; } one(1); }" + tail);
        // They come ahead of ROOM.
        due(3, many(5, "int a", "[1000];") + "int f() { @zz(); }");
        due(4, many(5, "int a", "[1000];") + "int f() { @f(1); }");
        due(7, many(5, "int a", "[1000];") + "int f() { f(); }@");
    }

    private static void roomOf(int words, String fits, String doesNot) {
        PocketCompiler x = new PocketCompiler(words);
        CHECK.same("in " + words + " words: " + fits, Check.load(x, fits), 0);
        CHECK.same("LIMIT", x.count(4), 4 * x.count(9) - 64);
        CHECK.same("no fault", x.fault(0), 0);
        CHECK.same("no place", x.fault(1), -1);
        PocketCompiler y = new PocketCompiler(words);
        CHECK.same("in " + words + " words: " + doesNot, Check.load(y, doesNot + " "), 7);
        CHECK.same("fault", y.fault(0), 7);
        CHECK.same("at the text's length", y.fault(1), doesNot.length() + 1);
        CHECK.same("nothing is loaded", y.count(4), 8);
    }

    /** "7 ROOM (at the text's length): code and globals, and 64 bytes behind them, would be more than the MEMORY". */
    private static void room() {
        // Two words of code, and 16 that stay free.
        roomOf(256, "int a[238];", "int a[239];");
        roomOf(257, "int a[239];", "int a[240];");
        roomOf(1024, "int a[1000];int b[6];", "int a[1000];int b[7];");
        roomOf(255, "int a[1000];int b[6];", "int a[1000];int b[7];");
        roomOf(4096, many(4, "int a", "[1000];") + "int b[78];", many(4, "int a", "[1000];") + "int b[79];");
        roomOf(256, "int a[237];int v;", "int a[238];int v;");
        // Code alone: 16 words of a function, and one for each number.
        roomOf(256, "int f(){" + "1;".repeat(224) + "}", "int f(){" + "1;".repeat(225) + "}");
        roomOf(256, "int f(){" + "1;".repeat(223) + "}int v;", "int f(){" + "1;".repeat(224) + "}int v;");
        // MUL has ten words, DIV has 26; 1*1 and 1/1 have five themselves.
        roomOf(256, "int f(){1*1;" + "1;".repeat(209) + "}", "int f(){1*1;" + "1;".repeat(210) + "}");
        roomOf(256, "int f(){1/1;" + "1;".repeat(193) + "}", "int f(){1/1;" + "1;".repeat(194) + "}");
        // Far more than the memory.
        due(7, many(60, "int a", "[1000];") + "@");
    }
}
