import java.lang.reflect.InvocationTargetException;
import java.lang.reflect.Method;
import java.nio.charset.StandardCharsets;
import java.util.Arrays;
import java.util.HashMap;
import java.util.Map;
import java.util.Random;

/**
 * The class and the document done a second time answer alike: for texts made at random, for words made at random, and in
 * lives of calls made at random. Always the same ones; two numbers as arguments ask for other ones, from one to the other.
 */
public final class SecondTest {
    private static final Check CHECK = new Check();
    private static final Map<String, Method> FIRST = new HashMap<>();
    private static final Map<String, Method> SECOND = new HashMap<>();
    private static final int[] OPCODES = {0x37, 0x17, 0x6F, 0x67, 0x63, 0x03, 0x23, 0x13, 0x33, 0x0F, 0x73};
    private static final int[] EDGES = {0, 1, -1, 2, 3, 4, 5, 8, 10, 17, 31, 32, 33, 64, 199, 200, 201, 1020, 1024, 4092,
        4096, 20000, 20001, 50000, 50001, Integer.MAX_VALUE, Integer.MIN_VALUE, -4, 0x73, 0x100073};

    private static boolean isThrough;

    private final Random random;
    private final int words;
    private PocketCompiler x;
    private SecondObject y;
    private String story;
    private int calls;

    private SecondTest(long seed) {
        random = new Random(seed);
        int[] sizes = {256, 256 + random.nextInt(500), 1024, 4096};
        words = sizes[random.nextInt(sizes.length)];
        begin();
    }

    public static void main(String[] args) throws InterruptedException {
        int from = args.length > 1 ? Integer.parseInt(args[0]) : 0;
        int to = args.length > 1 ? Integer.parseInt(args[1]) : 1500;
        for (Method method : PocketCompiler.class.getDeclaredMethods()) {
            FIRST.put(method.getName(), method);
        }
        for (Method method : SecondObject.class.getDeclaredMethods()) {
            SECOND.put(method.getName(), method);
        }
        // The tree is worked out by recursion, some calls in Java for each one of the text.
        Thread thread = new Thread(null, () -> compareAll(from, to), "compare", 1L << 26);
        thread.start();
        thread.join();
        CHECK.yes("nothing was thrown on the way", isThrough);
        CHECK.end();
    }

    private static void compareAll(int from, int to) {
        int fine = 0;
        for (int seed = from; seed < to; seed++) {
            fine += new SecondTest(2L * seed).text() ? 1 : 0;
            new SecondTest(2L * seed + 1).words();
            new SecondTest(-1L - seed).life();
        }
        CHECK.yes("a quarter of the texts are loaded: " + fine, fine >= (to - from) / 4);
        isThrough = true;
    }

    private void begin() {
        x = new PocketCompiler(words);
        y = new SecondObject(words);
        story = "";
        calls = 0;
    }

    /** A call on both: the class's answer, a boolean as 1 or 0, 0 where it throws. */
    private int call(String name, int... arguments) {
        Integer[] told = Arrays.stream(arguments).boxed().toArray(Integer[]::new);
        calls++;
        if (calls > 512) {
            throw new IllegalStateException("an object has 512 calls");
        }
        String first = answer(FIRST.get(name), x, told);
        String what = name + Arrays.toString(arguments);
        CHECK.same(words + " words, " + story + what, first, answer(SECOND.get(name), y, told));
        if (!name.equals("feed")) {
            story += name.equals("load") ? "\n" : what + " ";
        }
        return first.equals("true") ? 1 : first.matches("-?[0-9]+") ? Integer.parseInt(first) : 0;
    }

    private static String answer(Method method, Object on, Integer[] arguments) {
        try {
            return String.valueOf(method.invoke(on, (Object[]) arguments));
        } catch (InvocationTargetException thrown) {
            return "throws." + thrown.getCause().getClass().getSimpleName();
        } catch (IllegalAccessException thrown) {
            throw new IllegalStateException(thrown);
        }
    }

    private void rows(String name, int from, int to, int... behind) {
        for (int k = from; k <= to; k++) {
            int[] arguments = new int[1 + behind.length];
            System.arraycopy(behind, 0, arguments, 1, behind.length);
            arguments[0] = k;
            call(name, arguments);
        }
    }

    private void tape(String text) {
        byte[] bytes = Arrays.copyOf(text.getBytes(StandardCharsets.ISO_8859_1), (text.length() + 19) / 20 * 20);
        story += "tape " + text + " ";
        for (int k = 0; k < bytes.length; k += 20) {
            int[] five = new int[5];
            for (int b = 0; b < 20; b++) {
                five[b / 4] = five[b / 4] << 8 | bytes[k + b] & 255;
            }
            call("feed", five);
        }
        call("end", text.length());
    }

    private void loadAnew(String text) {
        begin();
        tape(text);
        call("load");
    }

    // Texts.

    /** Whether it was loaded. */
    private boolean text() {
        String text = new SecondTexts(random).text();
        if (text.length() > 4000) {
            return false;
        }
        loadAnew(text);
        rows("fault", -1, 2);
        rows("count", 0, 4);
        if (y.fault(0) != 0) {
            return false;
        }
        facts(text);
        codes(text);
        for (int f = 0; f < Math.min(y.count(2), 4); f++) {
            loadAnew(text);
            for (int k = random.nextInt(4); k > 0; k--) {
                call("give", number());
            }
            runs(f);
            works(f);
        }
        return true;
    }

    private void facts(String text) {
        for (String name : new String[] {"function", "global"}) {
            int count = y.count(name.equals("function") ? 2 : 3);
            for (int what = 0; what <= 3; what++) {
                loadAnew(text);
                rows(name, 0, count, what);
            }
        }
    }

    private void codes(String text) {
        int count = y.count(1);
        for (int from = 0; from <= count; from += 250) {
            loadAnew(text);
            rows("code", from, Math.min(count, from + 249));
        }
    }

    private void runs(int f) {
        call("start", f, number(), number());
        call("run", random.nextInt(30));
        call("run", 20000);
        processor();
        int last = 4 * words - 4;
        for (int address = last; address > last - 200; address -= 4) {
            call("word", address);
        }
        for (int g = 0; g < Math.min(3, y.count(3)); g++) {
            call("word", y.global(g, 1));
        }
    }

    private void processor() {
        rows("register", 0, 32);
        rows("count", 5, 10);
        call("result");
        rows("put", -1, 3);
    }

    private void works(int f) {
        call("work", f, number(), number(), random.nextInt(3) == 0 ? random.nextInt(8) : 300);
        rows("told", -1, 6);
        rows("worked", -1, 3);
        for (int g = 0; g < Math.min(4, y.count(3)); g++) {
            for (int k = 0; k < 4; k++) {
                call("left", g, k);
            }
        }
    }

    // Words.

    private int instruction() {
        int word = random.nextInt() & ~127 | OPCODES[random.nextInt(OPCODES.length)];
        switch (random.nextInt(6)) {
            case 0: return word;
            case 1: return random.nextInt(20) == 0 ? 0x100073 : 0x73;
            case 2: return random.nextInt(20) == 0 ? random.nextInt() : word & 0x41FFFFFF;
            // Fewer bits of rs1: more addresses that are in the memory.
            default: return word & 0x41FFFFFF & ~(random.nextInt() & 0x000F8000);
        }
    }

    /** Words from address 0 on, with numbers in the registers; some words are shown. */
    private void words() {
        call("give", 9);
        call("give", 8);
        for (int k = 1; k < 32; k++) {
            int near = random.nextInt(1024) & ~(random.nextInt() & 3);
            call("set", k, k == 17 ? random.nextInt(4) : random.nextInt(3) == 0 ? random.nextInt() : near);
        }
        for (int k = 0; k < 60; k++) {
            call("poke", 4 * k, instruction());
        }
        for (int k = 0; k < 40; k++) {
            call("step");
        }
        processor();
        for (int k = 0; k < 60; k++) {
            call("word", 4 * random.nextInt(256));
        }
        for (int k = 0; k < 5; k++) {
            rows("octet", -1, call("show", instruction()));
        }
    }

    // Lives.

    private int number() {
        switch (random.nextInt(5)) {
            case 0: return random.nextInt();
            case 1: return 4 * random.nextInt(300);
            case 2: return EDGES[random.nextInt(EDGES.length)];
            default: return random.nextInt(5);
        }
    }

    private void life() {
        while (calls < 390) {
            if (random.nextInt(100) == 0) {
                tapeAndLoad();
            } else {
                callOne(random.nextInt(30));
            }
        }
        processor();
        rows("told", 0, 5);
    }

    private void tapeAndLoad() {
        SecondTexts texts = new SecondTexts(random);
        String text = random.nextInt(4) == 0 ? texts.text() : texts.small();
        if (text.length() <= 1200) {
            call("end", 0);
            tape(text);
            call("load");
        }
    }

    private void tapeName() {
        String text = random.nextBoolean() ? "f" + (char) ('a' + random.nextInt(4)) : "g" + random.nextInt(4);
        call("end", 0);
        tape(text);
        call("end", text.length() - (random.nextInt(5) == 0 ? 1 : 0));
    }

    private void callOne(int which) {
        int small = random.nextInt(7) - 1;
        int any = number();
        switch (which) {
            case 0: call("feed", number(), number(), 0x7B207D20, number(), number()); break;
            case 1: call("end", random.nextInt(60) - 10); break;
            case 2: call("load"); break;
            case 3: call("fault", small); break;
            case 4: call("code", random.nextInt(70) - 5); break;
            case 5: call("function", small, random.nextInt(6) - 1); break;
            case 6: call("global", small, random.nextInt(6) - 1); break;
            case 7: tapeName(); break;
            case 8: call("find", random.nextInt(5) / 2); break;
            case 9: call("give", any); break;
            case 10: rows("give", 5, random.nextInt(12)); break;
            case 11: call(random.nextInt(5) == 0 ? "forget" : "result"); break;
            case 12:
            case 13: call("start", random.nextInt(4), any, number()); break;
            case 14: call("step"); break;
            case 15: call("run", any); break;
            case 16: call("run", random.nextInt(300)); break;
            case 17: call("result"); break;
            case 18: call("register", random.nextInt(36) - 1); break;
            case 19: call("set", random.nextInt(36) - 1, any); break;
            case 20: call("word", any); break;
            case 21: call("poke", any, instruction()); break;
            case 22: call("put", random.nextInt(4) == 0 ? any : small); break;
            case 23: call("show", instruction()); break;
            case 24: call("octet", random.nextInt(25) - 2); break;
            case 25:
            case 26: call("work", random.nextInt(4), any, number(), random.nextInt(4) == 0 ? number() : 200); break;
            case 27: call("told", small); break;
            case 28: call(random.nextBoolean() ? "worked" : "count", random.nextInt(13) - 1); break;
            default: call("left", random.nextInt(5) - 1, small); break;
        }
    }
}
