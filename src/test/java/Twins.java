import java.util.concurrent.Callable;
import java.util.function.Consumer;

/**
 * Two objects led alike, one of them also through a call: which of their answers are alike, now and as they go on.
 * Each look is taken of objects made anew, so that none of them has more than its 512 calls.
 */
final class Twins {
    /** What can be looked at. */
    enum Look {
        TAPE, TEXT, FAULT, GIVEN, PROCESSOR, MEMORY, SHOWN, WORK
    }

    private final Check check;
    private final int words;
    private final Consumer<PocketCompiler> before;

    Twins(Check check, int words, Consumer<PocketCompiler> before) {
        this.check = check;
        this.words = words;
        this.before = before;
    }

    /** The call, whatever it answers or throws, changes nothing. */
    void alike(String what, Consumer<PocketCompiler> call) {
        alikeBut(what, call, x -> { });
    }

    /** The call changes what is left out, and nothing else. */
    void alikeBut(String what, Consumer<PocketCompiler> call, Consumer<PocketCompiler> instead, Look... leftOut) {
        for (Look look : Look.values()) {
            boolean isLookedAt = true;
            for (Look out : leftOut) {
                isLookedAt &= out != look;
            }
            if (isLookedAt) {
                check.same(what + " and then " + look, seen(look, call), seen(look, instead));
            }
        }
    }

    private String seen(Look look, Consumer<PocketCompiler> call) {
        PocketCompiler x = new PocketCompiler(words);
        before.accept(x);
        try {
            call.accept(x);
        } catch (RuntimeException thrown) {
            // Whether it is thrown rightly is asked by the tests themselves.
        }
        StringBuilder answers = new StringBuilder();
        switch (look) {
            case TAPE: tape(x, answers); break;
            case TEXT: text(x, answers); break;
            case FAULT: rows(answers, "fault", -1, 2, x::fault); break;
            case GIVEN: given(x, answers); break;
            case PROCESSOR: processor(x, answers); break;
            case MEMORY: memory(x, answers); break;
            case SHOWN: rows(answers, "octet", -1, 60, x::octet); break;
            default: work(x, answers); break;
        }
        return answers.toString();
    }

    private interface Asked {
        int at(int k);
    }

    private static void add(StringBuilder answers, String call, Callable<?> asked) {
        String answer;
        try {
            answer = String.valueOf(asked.call());
        } catch (Exception thrown) {
            answer = thrown.getClass().getSimpleName();
        }
        answers.append(call).append(' ').append(answer).append('\n');
    }

    private static void rows(StringBuilder answers, String call, int from, int to, Asked asked) {
        for (int k = from; k <= to; k++) {
            int at = k;
            add(answers, call + " " + k, () -> asked.at(at));
        }
    }

    /** The tape has no bytes to be asked for: it is tried as a name, and as a text. */
    private static void tape(PocketCompiler x, StringBuilder answers) {
        add(answers, "count 0", () -> x.count(0));
        add(answers, "find 0", () -> x.find(0));
        add(answers, "find 1", () -> x.find(1));
        add(answers, "load", x::load);
        rows(answers, "place", 0, 1, x::fault);
        facts(x, answers);
        rows(answers, "code", 0, 80, x::code);
    }

    private static void facts(PocketCompiler x, StringBuilder answers) {
        rows(answers, "count", 1, 4, x::count);
        for (int what = 0; what <= 3; what++) {
            int asked = what;
            rows(answers, "function " + what + " of", -1, 4, f -> x.function(f, asked));
            rows(answers, "global " + what + " of", -1, 4, g -> x.global(g, asked));
        }
    }

    private static void text(PocketCompiler x, StringBuilder answers) {
        facts(x, answers);
        rows(answers, "code", 0, 200, x::code);
    }

    /** The numbers given, and which of them is the next one of the processor. */
    private static void given(PocketCompiler x, StringBuilder answers) {
        add(answers, "count 8", () -> x.count(8));
        x.set(17, 2);
        for (int k = 0; k < 70; k++) {
            x.poke(0, 0x73);
            x.set(32, 0);
            x.step();
            add(answers, "get", () -> x.register(10));
        }
        add(answers, "forget", x::forget);
    }

    private static void processor(PocketCompiler x, StringBuilder answers) {
        rows(answers, "register", -1, 33, x::register);
        rows(answers, "count", 5, 7, x::count);
        rows(answers, "count", 9, 10, x::count);
        add(answers, "result", x::result);
        rows(answers, "put", -1, 10, x::put);
        add(answers, "put 199", () -> x.put(199));
        add(answers, "put 200", () -> x.put(200));
        add(answers, "run", () -> x.run(500));
        rows(answers, "register", 0, 32, x::register);
        rows(answers, "count", 5, 7, x::count);
        rows(answers, "put", 0, 10, x::put);
    }

    private static void memory(PocketCompiler x, StringBuilder answers) {
        rows(answers, "word", 0, Math.min(x.count(9), 300) - 1, k -> x.word(4 * k));
    }

    private static void work(PocketCompiler x, StringBuilder answers) {
        rows(answers, "told", -1, 6, x::told);
        rows(answers, "worked", -1, 10, x::worked);
        add(answers, "worked 199", () -> x.worked(199));
        add(answers, "worked 200", () -> x.worked(200));
        for (int g = -1; g <= 4; g++) {
            int asked = g;
            rows(answers, "left of " + g, -1, 4, k -> x.left(asked, k));
        }
        add(answers, "work", () -> x.work(0, 2, 3, 100));
        rows(answers, "told", 0, 5, x::told);
        rows(answers, "worked", 0, 10, x::worked);
        rows(answers, "left of 0", 0, 1, k -> x.left(0, k));
    }
}
