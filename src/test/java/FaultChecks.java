/** What the tests of faults share: texts with a mark where their fault is due, and texts at the bounds. */
abstract class FaultChecks {
    static final Check CHECK = new Check();
    static final int WORDS = 4096;
    static final String HEAD = "int v; int r[3]; int g() {} int f(int p) { ";

    /** The text's fault is at the place marked by a @, which is taken out; without one there is none. */
    static void due(int fault, String marked) {
        dueAt(fault, marked.indexOf('@'), marked.replace("@", ""));
    }

    /** The text's fault is at a place, NONE without one. */
    static void dueAt(int fault, int place, String text) {
        PocketCompiler x = new PocketCompiler(WORDS);
        String shown = text.length() > 90 ? text.substring(0, 40) + " .. " + text.substring(text.length() - 40) : text;
        CHECK.same("fault of " + shown, Check.load(x, text), fault);
        CHECK.same("fault(0) of " + shown, x.fault(0), fault);
        CHECK.same("place of " + shown, x.fault(1), place);
    }

    static void fine(String text) {
        due(0, text);
    }

    /** A body of a function beside which a variable v, a row r of 3 and functions f(p), g() are told. */
    static void dueIn(int fault, String body) {
        due(fault, HEAD + body + " }");
    }

    static void fineIn(String body) {
        dueIn(0, body);
    }

    static String many(int count, String before, String behind) {
        StringBuilder text = new StringBuilder();
        for (int k = 0; k < count; k++) {
            text.append(before).append(k).append(behind);
        }
        return text.toString();
    }

    static String locals(int count) {
        StringBuilder text = new StringBuilder();
        for (int k = 0; k < count; k++) {
            text.append("int ").append((char) ('A' + k / 26)).append((char) ('a' + k % 26)).append(';');
        }
        return text.toString();
    }

    /** So many slots of the weakest operators, the strongest last; then what is told, in as many ( ). */
    static String deep(int slots, String inner) {
        String[] signs = {"|", "^", "&", "==", "<", "<<", "+", "*"};
        StringBuilder text = new StringBuilder();
        int open = 0;
        for (int k = 0; k < slots; k++) {
            text.append("1").append(signs[k % 8]);
            if (k % 8 == 7) {
                text.append('(');
                open++;
            }
        }
        return text + inner + ")".repeat(open) + ";";
    }
}
