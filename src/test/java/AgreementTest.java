import java.util.ArrayList;
import java.util.List;
import java.util.Random;

/** Texts made at random, always the same ones: what the processor does with them is what they mean. */
public final class AgreementTest {
    private static final String[] SIGNS = {"+", "-", "*", "/", "%", "&", "|", "^", "<<", ">>", "==", "!=", "<", "<=", ">",
        ">=", "&&", "||"};
    private static final String[] SETS = {"=", "+=", "-=", "*=", "/=", "%=", "&=", "|=", "^=", "<<=", ">>="};

    private final Random random;
    private final List<String> variables = new ArrayList<>();
    private int names;

    private AgreementTest(int seed) {
        random = new Random(seed);
    }

    public static void main(String[] args) {
        Check check = new Check();
        int halted = 0;
        for (int seed = 0; seed < 1500; seed++) {
            AgreementTest made = new AgreementTest(seed);
            String text = made.text();
            if (text.length() <= 4000) {
                halted += agree(check, text, seed) ? 1 : 0;
            }
        }
        check.yes("most of them ended: " + halted, halted > 700);
        check.end();
    }

    /** Whether the run halted, so that there was something to compare. */
    private static boolean agree(Check check, String text, int seed) {
        PocketCompiler x = new PocketCompiler(1024);
        if (Check.load(x, text) != 0) {
            check.same("fault at " + x.fault(1) + " of " + text, x.fault(0), 7);
            return false;
        }
        x.give(seed);
        x.give(-3);
        int outcome = x.work(2, seed, 5, 300);
        x.start(2, seed, 5);
        x.run(50000);
        if (x.count(5) != 1 || outcome == 4) {
            check.yes("neither ends, or one is cut: " + text, x.count(5) <= 1);
            return false;
        }
        check.same("reason of " + text, x.count(10), outcome);
        check.same("value of " + text, outcome == 0 ? x.result() : 0, x.told(1));
        check.same("how many were put by " + text, x.count(7), x.told(4));
        for (int k = 0; k < Math.min(x.told(4), 100); k++) {
            check.same("number put by " + text, x.put(k), x.worked(k));
        }
        for (int g = 0; g < x.count(3); g++) {
            for (int k = 0; k < x.global(g, 0); k++) {
                check.same("what is left by " + text, x.word(x.global(g, 1) + 4 * k), x.left(g, k));
            }
        }
        return true;
    }

    private boolean chance(int percent) {
        return random.nextInt(100) < percent;
    }

    private String any(String[] of) {
        return of[random.nextInt(of.length)];
    }

    private String text() {
        StringBuilder text = new StringBuilder("int v; int r[4]; int s[2]; ");
        String[] heads = {"int f(int a) { ", "int g(int a, int b, int c) { ", "int main(int a, int b) { "};
        for (String head : heads) {
            variables.clear();
            variables.add("v");
            variables.add("a");
            if (head.contains("b")) {
                variables.add("b");
            }
            text.append(head);
            for (int k = random.nextInt(5) + 1; k > 0; k--) {
                text.append(stat(3, false)).append(' ');
            }
            text.append("return ").append(expression(3)).append("; } ");
        }
        return text.toString();
    }

    private String stat(int depth, boolean inLoop) {
        switch (depth == 0 ? 9 + random.nextInt(3) : random.nextInt(14)) {
            case 0:
                return "{ " + block(depth, inLoop) + "}";
            case 1:
                return "if (" + expression(2) + ") { " + block(depth, inLoop) + "}";
            case 2:
                return "if (" + expression(2) + ") { " + block(depth, inLoop) + "} else { " + block(depth, inLoop) + "}";
            case 3:
                return "while (" + expression(2) + ") { " + block(depth, true) + "}";
            case 4:
                return "do { " + block(depth, true) + "} while (" + expression(2) + ");";
            case 5:
                String i = "n" + names++;
                return "int " + i + "; for (" + i + " = 0; " + i + " < " + random.nextInt(5) + "; " + i + " += 1) { "
                    + block(depth, true) + "}";
            case 6:
            case 7:
                String name = "n" + names++;
                String told = "int " + name + (chance(70) ? " = " + expression(3) : "") + ";";
                variables.add(name);
                return told;
            case 8:
                return inLoop ? (chance(60) ? "break;" : "continue;") : ";";
            case 9:
                return "put(" + expression(2) + ");";
            default:
                return expression(3) + ";";
        }
    }

    private String block(int depth, boolean inLoop) {
        int known = variables.size();
        StringBuilder text = new StringBuilder();
        for (int k = random.nextInt(4); k > 0; k--) {
            text.append(stat(depth - 1, inLoop)).append(' ');
        }
        while (variables.size() > known) {
            variables.remove(variables.size() - 1);
        }
        return text.toString();
    }

    private String place(int depth) {
        if (chance(70) || depth <= 0) {
            return variables.get(random.nextInt(variables.size()));
        }
        String index = chance(60) ? "" + random.nextInt(2) : "(" + expression(depth - 1) + ") & 1";
        return (chance(50) ? "r[" : "s[") + (chance(3) ? expression(depth - 1) : index) + "]";
    }

    private String expression(int depth) {
        if (depth > 0 && chance(25)) {
            return place(depth - 1) + " " + any(SETS) + " " + expression(depth - 1);
        }
        StringBuilder text = new StringBuilder(operand(depth));
        for (int k = random.nextInt(3); k > 0 && depth > 0; k--) {
            text.append(' ').append(any(SIGNS)).append(' ').append(operand(depth - 1));
        }
        if (depth > 1 && chance(10)) {
            text.append(" ? ").append(expression(depth - 1)).append(" : ").append(operand(depth - 1));
        }
        return text.toString();
    }

    private String operand(int depth) {
        switch (depth <= 0 ? random.nextInt(3) : random.nextInt(12)) {
            case 0:
                return "" + random.nextInt(10);
            case 1:
                return chance(50) ? "0x" + Integer.toHexString(random.nextInt()) : "'" + (char) ('a' + random.nextInt(26)) + "'";
            case 2:
            case 3:
            case 4:
            case 5:
                return place(depth);
            case 6:
                return any(new String[] {"-", "!", "~"}) + operand(depth - 1);
            case 7:
                return "f(" + expression(depth - 1) + ")";
            case 8:
                return "g(" + expression(depth - 1) + ", " + expression(depth - 1) + ", " + expression(depth - 1) + ")";
            case 9:
                return "get()";
            default:
                return "(" + expression(depth - 1) + ")";
        }
    }
}
