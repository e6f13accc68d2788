import java.util.ArrayList;
import java.util.List;
import java.util.Random;

/** Texts made at random by the grammar; in about half of them something is left out, changed or wrong. */
final class SecondTexts {
    private static final String[] ANY = {"(", ")", "{", "}", "[", "]", ";", ",", "?", ":", "=", "+=", "-", "!", "~", "int", "if",
        "else", "while", "do", "for", "break", "continue", "return", "put", "get", "a", "g0", "fa", "1", "'a'", "$", "//",
        "9999999999", "12345678901"};
    private static final String[] SIGNS = {"|", "^", "&", "==", "<", "<<", "+", "*"};
    private static final String[][] STATS = {{"{", "}"}, {"if(v)", ""}, {"if(v);else ", ""}, {"while(v)", ""},
        {"do ", "while(v);"}, {"for(;;)", ""}, {"{if(v);", "}"}, {"if(v)", "else -v;"}, {"{v=v+(1);", ";}"}};
    private static final String[][] OPENS = {{"(", ")"}, {"r[", "]"}, {"(v=", ")"}, {"(v+=", ")"}, {"(r[1]=", ")"},
        {"(r[p]-=", ")"}, {"f(", ")"}, {"(v?", ":1)"}, {"(v?1:", ")"}, {"f(1,", ")"}, {"f(1,2,3,4,5,6,7,", ")"},
        {"f(1,2,3,4,5,6,7,8,", ")"}};

    private final Random random;
    private final List<String> out = new ArrayList<>();
    private final List<List<String>> blocks = new ArrayList<>();
    private final List<String> variables = new ArrayList<>();
    private final List<String> rows = new ArrayList<>();
    private final List<String> functions = new ArrayList<>();
    private final List<Integer> parameters = new ArrayList<>();
    /** How many tokens are still wanted, about. */
    private int budget;
    /** One of so many tokens is left out; 0: none is, and nothing is wrong knowingly. */
    private int slip;
    private int loops;

    SecondTexts(Random random) {
        this.random = random;
    }

    private boolean chance(int percent) {
        return random.nextInt(100) < percent;
    }

    private boolean slips() {
        return slip > 0 && random.nextInt(slip) == 0;
    }

    private void add(String... tokens) {
        for (String token : tokens) {
            if (!slips()) {
                out.add(token);
                budget--;
            }
        }
    }

    /** A text of any sort. */
    String text() {
        if (chance(25)) {
            return deep();
        }
        slip = chance(50) ? 0 : 20 + random.nextInt(600);
        return byGrammar(chance(80) ? 30 + random.nextInt(300) : 30 + random.nextInt(1600));
    }

    /** A text of few tokens without a fault, but for ROOM. */
    String small() {
        return byGrammar(20 + random.nextInt(60));
    }

    private String byGrammar(int tokens) {
        int count = chance(5) && tokens > 100 ? 38 + random.nextInt(4) : 1 + random.nextInt(5);
        for (int k = 0; k < count; k++) {
            functions.add("f" + (char) ('a' + k % 26) + (k < 26 ? "" : "" + k / 26));
            parameters.add(chance(90) ? random.nextInt(3) : random.nextInt(9));
        }
        int globals = chance(4) && tokens > 100 ? 58 + random.nextInt(4) : random.nextInt(5);
        for (int k = 0; k < globals; k++) {
            global("g" + k);
        }
        for (int k = 0; k < count; k++) {
            budget = tokens / count;
            functionItem(k);
            if (chance(5)) {
                global("late" + k);
            }
        }
        return spelled();
    }

    /** One stat with some forty open, or with some 500 slots. */
    private String deep() {
        boolean isWide = chance(40);
        StringBuilder text = new StringBuilder("int v;int r[3];int f(int p){");
        text.append(FaultChecks.locals(!isWide ? random.nextInt(3) : chance(60) ? 380 + random.nextInt(40) : random.nextInt(300)));
        int open = isWide ? 2 + random.nextInt(14) : 36 + random.nextInt(8);
        int stats = isWide ? 0 : random.nextInt(open + 1);
        StringBuilder behind = new StringBuilder();
        for (int k = 0; k < stats; k++) {
            around(STATS[random.nextInt(STATS.length)], text, behind);
        }
        behind.insert(0, ';');
        for (int k = stats; k < open; k++) {
            for (int s = chance(80) ? 0 : random.nextInt(8); s < 8 && (isWide || chance(60)); s++) {
                text.append("1").append(SIGNS[s]);
            }
            if (chance(15) && !isWide) {
                text.append(chance(50) ? "-" : "!");
            } else {
                around(OPENS[random.nextInt(chance(90) ? 8 : OPENS.length)], text, behind);
            }
        }
        return text + (chance(50) ? "v" : chance(50) ? "f(1)" : "1+2") + behind + "}";
    }

    private static void around(String[] one, StringBuilder text, StringBuilder behind) {
        text.append(one[0]);
        behind.insert(0, one[1]);
    }

    private void global(String name) {
        if (chance(60)) {
            add("int", name, ";");
            variables.add(name);
        } else {
            int most = slip > 0 ? 1003 : 300;
            int size = chance(80) ? 1 + random.nextInt(6) : 1 + random.nextInt(most) - (slips() ? 1 : 0);
            add("int", name, "[", chance(80) ? "" + size : "0x" + Integer.toHexString(size), "]", ";");
            rows.add(name);
        }
    }

    private void functionItem(int k) {
        List<String> block = new ArrayList<>();
        blocks.clear();
        blocks.add(block);
        add("int", functions.get(k), "(");
        for (int p = 0; p < parameters.get(k); p++) {
            String name = name();
            while (block.contains(name)) {
                name = name();
            }
            block.add(name);
            add(p > 0 ? new String[] {",", "int", name} : new String[] {"int", name});
        }
        add(")", "{");
        stats(1);
        add("}");
    }

    private String name() {
        return chance(1) ? "a_rather_long_nm" + (slips() ? "x" : "") : "" + (char) ('a' + random.nextInt(12));
    }

    private void stats(int depth) {
        while (budget > 0 && !chance(depth > 3 ? 45 : 20)) {
            stat(depth, false);
        }
    }

    private void stat(int depth, boolean isInner) {
        switch (depth > 30 ? 9 : random.nextInt(17)) {
            case 0:
                add("{");
                blocks.add(new ArrayList<>());
                stats(depth + 1);
                blocks.remove(blocks.size() - 1);
                add("}");
                break;
            case 1:
            case 2:
                ifStat(depth);
                break;
            case 3:
                add("while");
                inRound();
                round(depth);
                break;
            case 4:
                add("do");
                round(depth);
                add("while");
                inRound();
                add(";");
                break;
            case 5:
            case 6:
                forStat(depth);
                break;
            case 7:
            case 8:
            case 9:
                local(isInner);
                break;
            case 10:
                add(loops > 0 || slip > 0 && chance(10) ? chance(50) ? "break" : "continue" : "1", ";");
                break;
            case 11:
                add("return");
                eBy(80);
                add(";");
                break;
            case 12:
                add("put");
                inRound();
                add(";");
                break;
            default:
                e(4);
                add(";");
                break;
        }
    }

    private void inRound() {
        add("(");
        e(2);
        add(")");
    }

    private void round(int depth) {
        loops++;
        stat(depth + 1, true);
        loops--;
    }

    private void ifStat(int depth) {
        add("if");
        inRound();
        stat(depth + 1, true);
        if (chance(40)) {
            add("else");
            stat(depth + 1, true);
        }
    }

    private void eBy(int percent) {
        if (chance(percent)) {
            e(2);
        }
    }

    private void forStat(int depth) {
        add("for", "(");
        eBy(70);
        add(";");
        eBy(80);
        add(";");
        eBy(70);
        add(")");
        round(depth);
    }

    private void local(boolean isInner) {
        List<String> block = blocks.get(blocks.size() - 1);
        String name = name();
        if (!isInner && !slips() && block.contains(name)) {
            add(";");
            return;
        }
        add("int", name);
        if (chance(60)) {
            add("=");
            e(3);
        }
        add(";");
        if (!isInner) {
            block.add(name);
        }
    }

    /** Adds a PLACE, if there is one that is known. */
    private boolean place(int depth) {
        if (!rows.isEmpty() && chance(35)) {
            add(rows.get(random.nextInt(rows.size())), "[");
            if (chance(70)) {
                add("" + random.nextInt(4));
            } else {
                e(depth - 1);
            }
            add("]");
            return true;
        }
        List<String> known = new ArrayList<>(variables);
        blocks.forEach(known::addAll);
        if (!known.isEmpty()) {
            add(slips() ? name() : known.get(random.nextInt(known.size())));
        }
        return !known.isEmpty();
    }

    private void e(int depth) {
        if (depth > 0 && chance(25) && place(depth)) {
            add(Second.SETS.get(random.nextInt(Second.SETS.size())));
            e(depth - 1);
        } else {
            c(depth);
        }
    }

    private void c(int depth) {
        operand(depth);
        for (int k = depth > 0 ? random.nextInt(3) : 0; k > 0 && budget > -100; k--) {
            List<String> strength = Second.STRENGTHS.get(random.nextInt(Second.STRENGTHS.size()));
            add(strength.get(random.nextInt(strength.size())));
            operand(depth - 1);
        }
        if (depth > 0 && chance(10)) {
            add("?");
            e(depth - 1);
            add(":");
            c(depth - 1);
        }
    }

    private void operand(int depth) {
        switch (depth <= 0 ? random.nextInt(4) : random.nextInt(12)) {
            case 0:
                add("" + random.nextInt(chance(70) ? 10 : 5000));
                break;
            case 1:
                add(number());
                break;
            case 2:
            case 3:
            case 4:
            case 5:
                if (!place(depth)) {
                    add("7");
                }
                break;
            case 6:
                add(chance(40) ? "-" : chance(50) ? "!" : "~");
                operand(depth);
                break;
            case 7:
            case 8:
                call(depth);
                break;
            case 9:
                add("get", "(", ")");
                break;
            default:
                add("(");
                e(depth);
                add(")");
                break;
        }
    }

    private String number() {
        switch (random.nextInt(6)) {
            case 0: return "0x" + Integer.toHexString(random.nextInt());
            case 1: return "'" + (char) (32 + random.nextInt(slip > 0 ? 100 : 7)) + "'";
            case 2: return "" + (random.nextInt() & 0x7FFFFFFF);
            case 3: return "" + (2047 + random.nextInt(3));
            case 4: return slips() ? "2147483648" : "2147483647";
            default: return "0xfffff" + Integer.toHexString(0x7fd + random.nextInt(6));
        }
    }

    private void call(int depth) {
        int f = random.nextInt(functions.size());
        int count = slip > 0 && chance(3) ? random.nextInt(10) : parameters.get(f);
        add(slips() ? "none" : functions.get(f), "(");
        for (int k = 0; k < count; k++) {
            if (k > 0) {
                add(",");
            }
            e(depth - 1);
        }
        add(")");
    }

    private void change() {
        for (int k = random.nextInt(3); k > 0 && out.size() > 3; k--) {
            int where = random.nextInt(out.size());
            switch (random.nextInt(5)) {
                case 0: out.remove(where); break;
                case 1: out.add(where, out.get(random.nextInt(out.size()))); break;
                case 2: out.add(where, ANY[random.nextInt(ANY.length)]); break;
                case 3: out.set(where, ANY[random.nextInt(ANY.length)]); break;
                default: out.subList(where, out.size()).clear(); break;
            }
        }
    }

    private String spelled() {
        if (slip > 0) {
            change();
        }
        StringBuilder text = new StringBuilder();
        boolean isTight = chance(60);
        for (String token : out) {
            boolean mayTouch = text.length() > 0 && !joins(text.charAt(text.length() - 1), token.charAt(0));
            text.append(isTight ? mayTouch ? "" : " " : chance(80) ? " " : chance(50) ? "\n\t" : " // note /* 'x\n");
            text.append(token);
        }
        for (int k = slip > 0 && chance(15) ? 1 + random.nextInt(3) : 0; k > 0 && text.length() > 0; k--) {
            char c = (char) (chance(80) ? 32 + random.nextInt(95) : random.nextInt(256));
            text.setCharAt(random.nextInt(text.length()), c);
        }
        return text.toString();
    }

    private static boolean isWordPart(char c) {
        return Character.isLetterOrDigit(c) || c == '_';
    }

    private static boolean joins(char left, char right) {
        String signs = "=<>|&+-*/%^!";
        return isWordPart(left) && isWordPart(right) || signs.indexOf(left) >= 0 && signs.indexOf(right) >= 0;
    }
}
