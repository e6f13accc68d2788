import java.nio.charset.StandardCharsets;
import java.util.Arrays;
import java.util.concurrent.Callable;

/** What the tests share: comparing answers, and feeding texts to an object. */
final class Check {
    private int wrong;

    void same(String what, long got, long due) {
        if (got != due) {
            wrong++;
            System.out.println(what + ": answered " + got + ", due is " + due);
        }
    }

    void same(String what, String got, String due) {
        if (!got.equals(due)) {
            wrong++;
            System.out.println(what + ": answered\n" + got + "\ndue is\n" + due);
        }
    }

    void yes(String what, boolean got) {
        same(what, got ? 1 : 0, 1);
    }

    void no(String what, boolean got) {
        same(what, got ? 1 : 0, 0);
    }

    /** The call throws just this exception. */
    void fails(String what, Class<? extends RuntimeException> due, Callable<?> call) {
        Class<?> got = null;
        try {
            call.call();
        } catch (Exception thrown) {
            got = thrown.getClass();
        }
        if (got != due) {
            wrong++;
            System.out.println(what + ": threw " + got + ", due is " + due);
        }
    }

    void end() {
        System.out.println(wrong == 0 ? "all answers are as due" : wrong + " answers are not as due");
        if (wrong != 0) {
            System.exit(1);
        }
    }

    /** The tape, empty before, has just this text. */
    static void tape(PocketCompiler x, String text) {
        byte[] bytes = text.getBytes(StandardCharsets.ISO_8859_1);
        byte[] padded = Arrays.copyOf(bytes, (bytes.length + 19) / 20 * 20);
        x.end(0);
        for (int k = 0; k < padded.length; k += 20) {
            x.feed(number(padded, k), number(padded, k + 4), number(padded, k + 8), number(padded, k + 12),
                number(padded, k + 16));
        }
        x.end(bytes.length);
    }

    static int load(PocketCompiler x, String text) {
        tape(x, text);
        return x.load();
    }

    static PocketCompiler loaded(int words, String text) {
        PocketCompiler x = new PocketCompiler(words);
        if (load(x, text) != 0) {
            throw new IllegalStateException("fault " + x.fault(0) + " at " + x.fault(1) + " of " + text);
        }
        return x;
    }

    /** The text of show(), by an object of its own: the one that is looked at has no calls to spare. */
    static String shown(int word) {
        PocketCompiler x = new PocketCompiler(256);
        int size = x.show(word);
        StringBuilder text = new StringBuilder();
        for (int k = 0; k < size; k++) {
            text.append((char) x.octet(k));
        }
        return text.toString();
    }

    /** The words of the code from one to another (left out), a line each. */
    static String listing(PocketCompiler x, int from, int to) {
        StringBuilder text = new StringBuilder();
        for (int k = from; k < to; k++) {
            text.append(shown(x.code(k))).append('\n');
        }
        return text.toString();
    }

    private static int number(byte[] bytes, int from) {
        int number = 0;
        for (int k = 0; k < 4; k++) {
            number = number << 8 | bytes[from + k] & 255;
        }
        return number;
    }
}
