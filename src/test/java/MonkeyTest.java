import java.util.NoSuchElementException;
import java.util.Random;

/** Calls at random, always the same ones, on objects in all states: nothing is thrown but what the document names. */
public final class MonkeyTest {
    private static final String[] TEXTS = {"int v; int r[3]; int f(int a, int b) { r[a & 1] += b; put(r[0]); return f(b, a); }",
        "int f() { for (;;) put(get()); }", "int f(int a) { return 7 / a; } int g(int a, int b, int c) { }",
        "int r[9]; int f(int a) { return r[a]; }", "int f() { return g(); } int g() { return 1 << 2 * 3; }", "", "int f("};
    private static final int[] EDGES = {0, 1, -1, 2, 3, 4, 5, 8, 10, 17, 31, 32, 33, 64, 199, 200, 1020, 1024, 4092, 4096,
        20000, 20001, 50000, 50001, Integer.MAX_VALUE, Integer.MIN_VALUE, -4, 0x73, 0x100073};
    private static final int[] OPCODES = {0x37, 0x17, 0x6F, 0x67, 0x63, 0x03, 0x23, 0x13, 0x33, 0x0F, 0x73};

    private final Random random;
    private final PocketCompiler x;

    private MonkeyTest(int seed) {
        random = new Random(seed);
        x = new PocketCompiler(number());
    }

    public static void main(String[] args) {
        Check check = new Check();
        for (int seed = 0; seed < 400; seed++) {
            MonkeyTest monkey = new MonkeyTest(seed);
            for (int k = 0; k < 400; k++) {
                monkey.callAndLook(check, seed, k);
            }
            check.same("x0", monkey.x.register(0), 0);
        }
        check.end();
    }

    private int number() {
        switch (random.nextInt(4)) {
            case 0: return random.nextInt();
            case 1: return random.nextInt(40);
            case 2: return 4 * random.nextInt(300);
            default: return EDGES[random.nextInt(EDGES.length)];
        }
    }

    private int instruction() {
        int word = random.nextInt() & ~127 | OPCODES[random.nextInt(OPCODES.length)];
        return random.nextBoolean() ? word & 0x41FFFFFF : word;
    }

    private void callAndLook(Check check, int seed, int k) {
        int which = random.nextInt(27);
        Class<?> thrown = null;
        try {
            callOne(which);
        } catch (RuntimeException e) {
            thrown = e.getClass();
        }
        boolean isFine = thrown == null;
        switch (which) {
            case 4: case 14: case 15:
                isFine |= thrown == IndexOutOfBoundsException.class;
                break;
            case 7: case 12:
                isFine |= thrown == IllegalArgumentException.class;
                break;
            case 16: case 17:
                isFine |= thrown == IllegalArgumentException.class || thrown == IndexOutOfBoundsException.class;
                break;
            case 18: case 23: case 24:
                isFine |= thrown == NoSuchElementException.class;
                break;
            case 21:
                isFine |= thrown == NoSuchElementException.class || thrown == IllegalArgumentException.class;
                break;
            default:
                break;
        }
        check.yes("seed " + seed + ", call " + k + " of sort " + which + " threw " + thrown, isFine);
    }

    private void callOne(int which) {
        switch (which) {
            case 0: x.feed(random.nextInt(), number(), 0x7B207D20, number(), number()); break;
            case 1: x.end(number()); break;
            case 2: Check.load(x, TEXTS[random.nextInt(TEXTS.length)]); break;
            case 3: x.fault(number()); break;
            case 4: x.code(number()); break;
            case 5: x.function(number(), number()); break;
            case 6: x.global(number(), number()); break;
            case 7: x.find(random.nextInt(3)); break;
            case 8: x.give(number()); break;
            case 9: x.forget(); break;
            case 10: x.start(random.nextInt(3), number(), number()); break;
            case 11: x.step(); break;
            case 12: x.run(number()); break;
            case 13: x.result(); break;
            case 14: x.register(number()); break;
            case 15: x.set(number(), number()); break;
            case 16: x.word(number()); break;
            case 17: x.poke(number(), instruction()); break;
            case 18: x.put(number()); break;
            case 19: x.show(random.nextBoolean() ? number() : instruction()); break;
            case 20: x.octet(number()); break;
            case 21: x.work(random.nextInt(3), number(), number(), random.nextBoolean() ? 500 : number()); break;
            case 22: x.told(number()); break;
            case 23: x.worked(number()); break;
            case 24: x.left(random.nextInt(3) - 1, random.nextInt(5) - 1); break;
            case 25: x.count(number()); break;
            default: x.load(); break;
        }
    }
}
