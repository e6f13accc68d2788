/** Terms 1, TOKENS: each sentence at its edges, most of them with every byte that there is. */
public final class TokenEdgesTest extends FaultChecks {
    private static final String LETTERS = "ABCDEFGHIJKLMNOPQRSTUVWXYZabcdefghijklmnopqrstuvwxyz_";
    private static final String DIGITS = "0123456789";
    private static final String HEX = "0123456789abcdefABCDEF";
    private static final String BLANKS = "\t\n\r ";
    private static final String SIGN_BYTES = "(){}[];,?:=+-*/%&|^<>!~";
    private static final String[] SIGNS = {"(", ")", "{", "}", "[", "]", ";", ",", "?", ":", "=", "+=", "-=", "*=", "/=",
        "%=", "&=", "|=", "^=", "<<=", ">>=", "||", "&&", "|", "^", "&", "==", "!=", "<", "<=", ">", ">=", "<<", ">>", "+",
        "-", "*", "/", "%", "!", "~"};

    public static void main(String[] args) {
        bytesBetweenTokens();
        bytesThatBeginNames();
        bytesInNames();
        lengthOfNames();
        keywords();
        notes();
        digits();
        hexDigits();
        bytesBehindNumbers();
        valuesOfNumbers();
        characters();
        signs();
        signsAsLongAsCanBe();
        lengthOfTexts();
        CHECK.end();
    }

    private static boolean isIn(String set, int b) {
        return set.indexOf((char) b) >= 0;
    }

    /** "between them blanks (9, 10, 13, 32)": no other byte is one. */
    private static void bytesBetweenTokens() {
        for (int b = 0; b < 256; b++) {
            String text = "int" + (char) b + "a ;";
            if (isIn(BLANKS, b)) {
                dueAt(0, -1, text);
            } else if (isIn(LETTERS + DIGITS, b)) {
                dueAt(2, 0, text);
            } else {
                dueAt(isIn(SIGN_BYTES, b) ? 2 : 1, 3, text);
            }
        }
        fine("\t\n\r int\r\n a \t\r;\n\n");
    }

    /** "a letter or _ ": a NAME begins with nothing else. */
    private static void bytesThatBeginNames() {
        for (int b = 0; b < 256; b++) {
            String text = "int " + (char) b + "x;";
            boolean isFine = isIn(LETTERS + BLANKS, b);
            dueAt(isFine ? 0 : isIn(SIGN_BYTES, b) ? 2 : 1, isFine ? -1 : 4, text);
        }
    }

    /** "then letters, digits, _ ": nothing else is in a NAME. */
    private static void bytesInNames() {
        for (int b = 0; b < 256; b++) {
            String text = "int x" + (char) b + ";";
            if (isIn(LETTERS + DIGITS + BLANKS, b)) {
                dueAt(0, -1, text);
            } else if (isIn("([;", b)) {
                dueAt(2, 6, text);
            } else {
                dueAt(isIn(SIGN_BYTES, b) ? 2 : 1, 5, text);
            }
        }
        // All bytes count where names are compared: upper and lower, the last one, a longer one.
        fine("int a; int A; int aa; int aA; int a_; int a0; int _a; int _; int __; int abcdefghijklmnop; "
            + "int abcdefghijklmnoq; int abcdefghijklmno;");
        due(3, "int abcdefghijklmnop; int @abcdefghijklmnop;");
    }

    /** "16 in all (a longer one is no token)". */
    private static void lengthOfNames() {
        for (int size = 1; size <= 40; size++) {
            due(size <= 16 ? 0 : 1, size <= 16 ? "int " + "n".repeat(size) + ";" : "int @" + "n".repeat(size) + ";");
        }
        due(1, "int f() { return @n2345678901234567; }");
        due(3, "int f() { return @n234567890123456; }");
        due(1, "@intintintintintin a;");
        due(2, "@intintintintinti a;");
    }

    /** "KEYWORDS, which are no NAMES", and what only looks like them. */
    private static void keywords() {
        for (String word : "int if else while do for break continue return put get".split(" ")) {
            due(2, "int @" + word + ";");
            due(2, "int @" + word + "() { }");
            due(2, "int f(int @" + word + ") { }");
            due(2, "int f() { int @" + word + "; }");
            String upper = word.substring(0, 1).toUpperCase() + word.substring(1);
            fine("int " + word + "_; int _" + word + "; int " + word + "0; int " + word.substring(1) + "; int " + upper
                + "; int " + word + "s; int " + word.toUpperCase() + ";");
        }
        // A keyword needs no blank behind it where no letter, digit or _ is.
        fineIn("if(v)return(1);else{}do;while(0);for(;;)break;put(get());");
        due(2, "@inta;");
        dueIn(3, "@returnv;");
    }

    /** "notes (// up to a 10 or the end)". */
    private static void notes() {
        for (int b = 0; b < 256; b++) {
            String text = "int a; // " + (char) b + "int a;\nint b;";
            dueAt(b == 10 ? 3 : 0, b == 10 ? 15 : -1, text);
        }
        fine("//");
        fine("// \u00ff");
        fine("int//\na//b\n;//");
        due(2, "int a // b ;@");
        due(2, "int a;@/");
        due(2, "int a;@/ / note");
        due(2, "int a;@/*/");
        dueIn(2, "v = v / @/ v;");
        fineIn("v = v ///=\n/ v;");
        fineIn("v = '/' // '\n;");
        dueIn(1, "v = @'//'\n';");
    }

    /** "NUMBERS: 1 to 10 digits" "(.. or more of them: no token)". */
    private static void digits() {
        for (int size = 1; size <= 12; size++) {
            boolean isFine = size <= 10;
            dueIn(isFine ? 0 : 1, "return " + (isFine ? "" : "@") + "1".repeat(size) + ";");
            dueIn(isFine ? 0 : 1, "return " + (isFine ? "" : "@") + "0".repeat(size) + ";");
        }
        fine("int a[0000001000];");
        due(1, "int a[@00000001000];");
    }

    /** "0x and 1 to 8 of 0 .. 9 a .. f A .. F". */
    private static void hexDigits() {
        for (int size = 0; size <= 10; size++) {
            boolean isFine = size >= 1 && size <= 8;
            dueIn(isFine ? 0 : 1, "return " + (isFine ? "" : "@") + "0x" + "f".repeat(size) + ";");
            dueIn(isFine ? 0 : 1, "return " + (isFine ? "" : "@") + "0x" + "0".repeat(size) + ";");
        }
        dueIn(1, "return @0X1;");
        dueIn(1, "return @00x1;");
        dueIn(1, "return @1x1;");
        dueIn(1, "return @0xx1;");
        fine("int a[0x000003e8];");
        due(1, "int a[@0x0000003e8];");
    }

    /** "(a letter, digit or _ directly behind these .. : no token)"; the digits themselves go on. */
    private static void bytesBehindNumbers() {
        for (int b = 0; b < 256; b++) {
            behindNumber("12", b, isIn(DIGITS, b));
            behindNumber("1234567890", b, false);
            behindNumber("0", b, isIn(DIGITS, b));
            behindNumber("0x", b, isIn(HEX, b));
            behindNumber("0x1f", b, isIn(HEX, b));
            behindNumber("0x12345678", b, false);
        }
    }

    private static void behindNumber(String number, int b, boolean goesOn) {
        String head = HEAD + "return ";
        String text = head + number + (char) b + ";} // '";
        boolean isWhole = !number.equals("0x");
        if (goesOn || isWhole && isIn(BLANKS, b)) {
            dueAt(0, -1, text);
        } else if (isIn(LETTERS + DIGITS, b) || !isWhole) {
            dueAt(1, head.length(), text);
        } else if (b == ';') {
            dueAt(0, -1, text);
        } else if (isIn("+-*/%&|^<>?", b)) {
            // An operator, or half of a SET, whose right side is missing.
            dueAt(2, head.length() + number.length() + 1, text);
        } else {
            dueAt(isIn(SIGN_BYTES, b) ? 2 : 1, head.length() + number.length(), text);
        }
    }

    private static void value(String e, int due) {
        PocketCompiler x = Check.loaded(1024, "int f() { return " + e + "; }");
        CHECK.same("work of " + e, x.work(0, 0, 0, 1), 0);
        CHECK.same("value of " + e, x.told(1), due);
        x.start(0, 0, 0);
        x.run(1000);
        CHECK.same("result of " + e, x.result(), due);
    }

    /** "which tell its bits". */
    private static void valuesOfNumbers() {
        value("0", 0);
        value("0000000000", 0);
        value("9", 9);
        value("010", 10);
        value("0000000010", 10);
        value("2147483647", Integer.MAX_VALUE);
        value("0x0", 0);
        value("0x7fffffff", Integer.MAX_VALUE);
        value("0x80000000", Integer.MIN_VALUE);
        value("0xffffffff", -1);
        value("0xFFFFFFFE", -2);
        value("0x0000000F", 15);
        for (int k = 0; k < HEX.length(); k++) {
            value("0x" + HEX.charAt(k), Character.digit(HEX.charAt(k), 16));
            value("0x1" + HEX.charAt(k) + "0", 256 + 16 * Character.digit(HEX.charAt(k), 16));
        }
        for (int k = 0; k < 10; k++) {
            value("1" + k, 10 + k);
        }
    }

    /** "CHARACTERS: ' , a byte 32 .. 126 but ' , and ' : that byte's number". */
    private static void characters() {
        for (int b = 0; b < 256; b++) {
            String text = HEAD + "return '" + (char) b + "';}";
            boolean isFine = b >= 32 && b <= 126 && b != '\'';
            dueAt(isFine ? 0 : 1, isFine ? -1 : HEAD.length() + 7, text);
            if (isFine) {
                value("'" + (char) b + "'", b);
            }
        }
        dueIn(1, "return @'';");
        dueIn(1, "return @'a ';");
        due(1, HEAD + "return @'");
        due(1, HEAD + "return @'a");
        due(2, HEAD + "return 'a'@");
        dueIn(2, "return 'a'@'b';");
        fineIn("return'a'+'b';");
    }

    /** Each of the SIGNS is a token (it can't begin an item), and no other byte is. */
    private static void signs() {
        for (String sign : SIGNS) {
            due(2, "@" + sign);
            due(2, "int a; @" + sign + " int");
        }
        for (int b = 0; b < 256; b++) {
            if (!isIn(LETTERS + DIGITS + BLANKS, b)) {
                dueAt(isIn(SIGN_BYTES, b) ? 2 : 1, 0, "" + (char) b);
            }
        }
    }

    /** "TOKENS, as long as can be". */
    private static void signsAsLongAsCanBe() {
        for (String sign : new String[] {"+", "-", "*", "/", "%", "&", "|", "^", "<<", ">>"}) {
            fineIn("v" + sign + "=v;");
            dueIn(2, "v" + sign + " @=v;");
            dueIn(2, "v" + sign + "=@=v;");
        }
        for (String sign : new String[] {"==", "!=", "<=", ">=", "<<", ">>", "&&", "||"}) {
            fineIn("v=v" + sign + "v;");
            String second = sign.substring(1);
            if (!sign.equals("!=")) {
                dueIn(2, "v=v" + sign.substring(0, 1) + " @" + second + "v;");
            }
        }
        dueIn(2, "v=v @! =v;");
        dueIn(2, "v=v==@=v;");
        dueIn(2, "v=v!=@=v;");
        dueIn(2, "v=v<=@=v;");
        dueIn(2, "v=v>=@=v;");
        dueIn(2, "v=v<<@<v;");
        dueIn(2, "v=v>>@>v;");
        dueIn(2, "v=v>>@>=v;");
        dueIn(2, "v=v<<@<=v;");
        dueIn(2, "v<<=@<v;");
        dueIn(2, "v=v&&@&v;");
        dueIn(2, "v=v||@|v;");
        dueIn(2, "v=v&&@=v;");
        dueIn(2, "v=v||@=v;");
        dueIn(2, "v=v<@>v;");
        dueIn(2, "v=v+@+v;");
        dueIn(2, "v= @=v;");
        fineIn("v=-v;v=!v;v=~v;v=v--v;v=v---v;v=v- -v;v=v+-v;v=v*-v;v=v/-v;v=v%-v;v=v&-v;v=v&~v;v=v|!v;v=v^~v;");
        fineIn("v=v<-v;v=v<<-v;v=v<=-v;v=v>-v;v=v>>-v;v=v==-v;v=v!=!v;v=v&&!v;v=v||!v;v+=-v;v<<=-v;v=v?-v:-v;v=!!v;");
    }

    /** "A TEXT has at most 4,000 bytes": all of them count. */
    private static void lengthOfTexts() {
        String text = "int f() { return 7; ";
        due(0, text + " ".repeat(3979) + "}");
        due(2, text + " ".repeat(3979) + "@)");
        due(1, text + " ".repeat(3979) + "@$");
        due(2, text + " ".repeat(3980) + "@");
        due(0, text + "}//" + "x".repeat(3977));
        due(1, text + " ".repeat(3963) + "@n2345678901234567");
        due(3, text + " ".repeat(3963) + "@n234567890123456)");
    }
}
