import java.util.NoSuchElementException;
import java.util.function.Consumer;
import java.util.function.Function;

/**
 * "What throws changes nothing", "false, and nothing happens", "nothing happens if it is not RUNNING": every call that
 * is refused, in every state, leaves all as it was; a call that only asks does so too; and a call that changes
 * something changes nothing else.
 */
public final class NothingChangesTest {
    private static final Check CHECK = new Check();
    private static final int LEAST = Integer.MIN_VALUE;
    private static final int MOST = Integer.MAX_VALUE;
    private static final int ECALL = 0x73;
    private static final int EBREAK = 0x100073;
    // Two globals; functions with two, no and three parameters.
    private static final String TEXT = "int v; int r[3]; int f(int a, int b) { v += a; r[1] = b; put(v); put(get()); "
        + "while (a) { put(get()); a -= 1; } return v * 10 + r[1]; } int g() { return 7 / v; } "
        + "int h(int a, int b, int c) { return r[a]; }";

    private final String name;
    private final Twins twins;
    private final Consumer<PocketCompiler> before;

    private NothingChangesTest(String name, Consumer<PocketCompiler> before) {
        this.name = name;
        this.before = before;
        twins = new Twins(CHECK, 256, before);
    }

    public static void main(String[] args) {
        NothingChangesTest[] states = {
            new NothingChangesTest("a new object", x -> { }),
            new NothingChangesTest("running", NothingChangesTest::running),
            new NothingChangesTest("halted", NothingChangesTest::halted),
            new NothingChangesTest("illegal", NothingChangesTest::illegal),
            new NothingChangesTest("bad", NothingChangesTest::bad)};
        for (NothingChangesTest state : states) {
            state.refusals();
            state.refusedAddresses();
            state.questions();
            state.changes();
        }
        states[1].refusedFunctions();
        states[2].refusedFunctions();
        full();
        stopped();
        none();
        CHECK.end();
    }

    /** In the midst of a run, with numbers put and got, something worked, shown and on the tape. */
    private static void running(PocketCompiler x) {
        Check.load(x, TEXT);
        x.give(11);
        x.give(-12);
        x.give(13);
        x.work(0, 2, 3, 100);
        x.start(0, 2, 3);
        x.run(60);
        x.show(0x00B50463);
        Check.tape(x, "f");
    }

    /** A run is at its end, the latest load() had a fault, the latest work() no value. */
    private static void halted(PocketCompiler x) {
        Check.load(x, TEXT);
        x.give(11);
        x.start(0, 1, 5);
        x.run(50000);
        x.work(1, 0, 0, 100);
        Check.load(x, "int v; int w $");
        x.show(EBREAK);
        Check.tape(x, "int w[2]; int v; int f() { return w[1]; }");
    }

    private static void illegal(PocketCompiler x) {
        x.set(10, 5);
        x.set(17, 1);
        x.poke(0, ECALL);
        x.step();
        x.step();
        x.show(-1);
        Check.tape(x, "int");
    }

    private static void bad(PocketCompiler x) {
        Check.load(x, "int v;");
        x.set(32, 6);
        x.step();
        Check.tape(x, "v");
    }

    private PocketCompiler made() {
        PocketCompiler x = new PocketCompiler(256);
        before.accept(x);
        return x;
    }

    private void throwsAndStays(String what, Class<? extends RuntimeException> due, Function<PocketCompiler, Object> call) {
        PocketCompiler x = made();
        CHECK.fails(name + ": " + what, due, () -> call.apply(x));
        twins.alike(name + ": " + what, call::apply);
    }

    private void answersAndStays(String what, int due, Function<PocketCompiler, Integer> call) {
        CHECK.same(name + ": " + what, call.apply(made()), due);
        twins.alike(name + ": " + what, call::apply);
    }

    private static int bit(boolean answer) {
        return answer ? 1 : 0;
    }

    private static Object done(Runnable call) {
        call.run();
        return null;
    }

    private void refusals() {
        for (int n : new int[] {-1, LEAST, MOST}) {
            answersAndStays("end " + n, 0, x -> bit(x.end(n)));
        }
        answersAndStays("end behind the tape", 0, x -> bit(x.end(x.count(0) + 1)));
        for (int i : new int[] {-1, LEAST}) {
            throwsAndStays("code " + i, IndexOutOfBoundsException.class, x -> x.code(i));
        }
        for (int sort : new int[] {-1, 2, LEAST, MOST}) {
            throwsAndStays("find " + sort, IllegalArgumentException.class, x -> x.find(sort));
        }
        for (int n : new int[] {-1, 50001, LEAST, MOST}) {
            throwsAndStays("run " + n, IllegalArgumentException.class, x -> x.run(n));
        }
        for (int k : new int[] {-1, 33, LEAST, MOST}) {
            throwsAndStays("register " + k, IndexOutOfBoundsException.class, x -> x.register(k));
            throwsAndStays("set " + k, IndexOutOfBoundsException.class, x -> done(() -> x.set(k, 9)));
        }
        for (int k : new int[] {-1, 200, LEAST, MOST}) {
            throwsAndStays("put " + k, NoSuchElementException.class, x -> x.put(k));
            throwsAndStays("worked " + k, NoSuchElementException.class, x -> x.worked(k));
        }
        throwsAndStays("put behind the last", NoSuchElementException.class, x -> x.put(x.count(7)));
        throwsAndStays("worked behind the last", NoSuchElementException.class, x -> x.worked(Math.max(x.told(4), 0)));
        for (int f : new int[] {-1, LEAST, MOST}) {
            answersAndStays("start " + f, 0, x -> bit(x.start(f, 8, 9)));
            throwsAndStays("work " + f, NoSuchElementException.class, x -> x.work(f, 8, 9, 5));
            throwsAndStays("left of " + f, NoSuchElementException.class, x -> x.left(f, 0));
        }
        answersAndStays("start behind the last", 0, x -> bit(x.start(x.count(2), 8, 9)));
        throwsAndStays("work behind the last", NoSuchElementException.class, x -> x.work(x.count(2), 8, 9, 5));
        throwsAndStays("left of one behind the last", NoSuchElementException.class, x -> x.left(x.count(3), 0));
    }

    private void refusedAddresses() {
        for (int odd : new int[] {1, 2, 3, -1, -2, -3, 1021, 1022, 1023, 1025, 1026, 1027, MOST, LEAST + 1}) {
            throwsAndStays("word " + odd, IllegalArgumentException.class, x -> x.word(odd));
            throwsAndStays("poke " + odd, IllegalArgumentException.class, x -> done(() -> x.poke(odd, 9)));
        }
        for (int far : new int[] {1024, 1028, -4, LEAST, MOST - 3}) {
            throwsAndStays("word " + far, IndexOutOfBoundsException.class, x -> x.word(far));
            throwsAndStays("poke " + far, IndexOutOfBoundsException.class, x -> done(() -> x.poke(far, 9)));
        }
    }

    /** With TEXT loaded: function 2 has three parameters, global 0 one number, global 1 three. */
    private void refusedFunctions() {
        answersAndStays("start of three parameters", 0, x -> bit(x.start(2, 8, 9)));
        throwsAndStays("work of three parameters", IllegalArgumentException.class, x -> x.work(2, 8, 9, 5));
        for (int n : new int[] {-1, 20001, LEAST, MOST}) {
            throwsAndStays("work with turns " + n, IllegalArgumentException.class, x -> x.work(0, 8, 9, n));
            throwsAndStays("work of no function", NoSuchElementException.class, x -> x.work(3, 8, 9, n));
            throwsAndStays("work of three parameters", IllegalArgumentException.class, x -> x.work(2, 8, 9, n));
        }
        int[][] none = {{0, -1}, {0, 1}, {1, -1}, {1, 3}, {0, MOST}, {1, LEAST}};
        for (int[] n : none) {
            throwsAndStays("left of " + n[0] + " " + n[1], NoSuchElementException.class, x -> x.left(n[0], n[1]));
        }
    }

    private void questions() {
        for (int k : new int[] {-1, 0, 1, 2, 3, 4, 10, 11, 32, 40, LEAST, MOST}) {
            twins.alike(name + ": fault", x -> x.fault(k));
            twins.alike(name + ": code", x -> x.code(k));
            twins.alike(name + ": function", x -> x.function(k, 0));
            twins.alike(name + ": function", x -> x.function(0, k));
            twins.alike(name + ": global", x -> x.global(k, 0));
            twins.alike(name + ": global", x -> x.global(0, k));
            twins.alike(name + ": find", x -> x.find(k));
            twins.alike(name + ": register", x -> x.register(k));
            twins.alike(name + ": word", x -> x.word(k));
            twins.alike(name + ": put", x -> x.put(k));
            twins.alike(name + ": octet", x -> x.octet(k));
            twins.alike(name + ": told", x -> x.told(k));
            twins.alike(name + ": worked", x -> x.worked(k));
            twins.alike(name + ": left", x -> x.left(k, 0));
            twins.alike(name + ": left", x -> x.left(0, k));
            twins.alike(name + ": count", x -> x.count(k));
        }
        twins.alike(name + ": result", PocketCompiler::result);
        answersAndStays("run 0", 0, x -> x.run(0));
        answersAndStays("end of all", 1, x -> bit(x.end(x.count(0))));
    }

    /** What a call changes, and nothing beside it. */
    private void changes() {
        Consumer<PocketCompiler> nothing = x -> { };
        twins.alikeBut(name + ": feed", x -> x.feed(1, 2, 3, 4, 5), nothing, Twins.Look.TAPE);
        twins.alikeBut(name + ": end", x -> x.end(0), nothing, Twins.Look.TAPE);
        twins.alikeBut(name + ": show", x -> x.show(0x33), nothing, Twins.Look.SHOWN);
        twins.alikeBut(name + ": give", x -> x.give(77), nothing, Twins.Look.GIVEN, Twins.Look.PROCESSOR,
            Twins.Look.WORK);
        twins.alikeBut(name + ": forget", PocketCompiler::forget, nothing, Twins.Look.GIVEN, Twins.Look.PROCESSOR,
            Twins.Look.WORK);
        twins.alikeBut(name + ": work", x -> x.work(0, 1, 1, 9), nothing, Twins.Look.WORK);
        twins.alikeBut(name + ": set", x -> x.set(9, 77), nothing, Twins.Look.PROCESSOR);
        twins.alikeBut(name + ": poke", x -> x.poke(512, 77), nothing, Twins.Look.MEMORY);
        Twins.Look[] processor = {Twins.Look.PROCESSOR, Twins.Look.MEMORY, Twins.Look.GIVEN};
        twins.alikeBut(name + ": start", x -> x.start(0, 1, 1), nothing, processor);
        twins.alikeBut(name + ": step", PocketCompiler::step, nothing, processor);
        twins.alikeBut(name + ": run", x -> x.run(100), nothing, processor);
        Twins.Look[] loading = {Twins.Look.TAPE, Twins.Look.FAULT, Twins.Look.TEXT, Twins.Look.WORK};
        twins.alikeBut(name + ": load", x -> Check.load(x, "int w;"), nothing, loading);
        // With a fault the text stays, and what was worked; the tape is empty.
        for (String fault : new String[] {"$", "int v", "int f() { a; }", "int f() { f(1); }", "int f() { break; }",
            "int r[0];", "int r[239];", "int v; int f(int a, int b) { int c = a * b; return c / (a + "}) {
            twins.alikeBut(name + ": load of " + fault, x -> Check.load(x, fault), x -> x.end(0), Twins.Look.FAULT,
                Twins.Look.TAPE);
            twins.alikeBut(name + ": the tape behind the load of " + fault, x -> {
                Check.load(x, fault);
                x.load();
            }, x -> {
                x.end(0);
                x.load();
            });
        }
    }

    private static void full() {
        NothingChangesTest tape = new NothingChangesTest("a full tape", x -> {
            x.feed(0x696E7420, 0x763B2020, 0x20202020, 0x20202020, 0x20202020);
            for (int k = 1; k < 200; k++) {
                x.feed(0x20202020, 0x20202020, 0x20202020, 0x20202020, 0x20202020);
            }
        });
        tape.answersAndStays("feed", 0, x -> bit(x.feed(1, 2, 3, 4, 5)));
        tape.answersAndStays("end behind it", 0, x -> bit(x.end(4001)));
        tape.answersAndStays("end at it", 1, x -> bit(x.end(4000)));
        NothingChangesTest almost = new NothingChangesTest("a tape of 3,981", x -> {
            tape.before.accept(x);
            x.end(3981);
        });
        almost.answersAndStays("feed", 0, x -> bit(x.feed(1, 2, 3, 4, 5)));
        NothingChangesTest given = new NothingChangesTest("64 numbers", x -> {
            for (int k = 1; k <= 64; k++) {
                x.give(k);
            }
        });
        given.answersAndStays("give", -1, x -> x.give(65));
        given.answersAndStays("give", -1, x -> x.give(0));
    }

    private static void stopped() {
        NothingChangesTest[] states = {
            new NothingChangesTest("halted", NothingChangesTest::halted),
            new NothingChangesTest("illegal", NothingChangesTest::illegal),
            new NothingChangesTest("bad", NothingChangesTest::bad)};
        for (int k = 0; k < states.length; k++) {
            states[k].answersAndStays("step", k + 1, PocketCompiler::step);
            states[k].answersAndStays("run", 0, x -> x.run(1));
            states[k].answersAndStays("run", 0, x -> x.run(50000));
        }
    }

    /** Nothing is there yet: what asks for it finds none, and makes none. */
    private static void none() {
        NothingChangesTest fresh = new NothingChangesTest("a new object", x -> { });
        fresh.answersAndStays("forget", 0, PocketCompiler::forget);
        fresh.answersAndStays("octet", -1, x -> x.octet(0));
        fresh.answersAndStays("told", -1, x -> x.told(0));
        fresh.answersAndStays("fault", 0, x -> x.fault(0));
        fresh.answersAndStays("fault", -1, x -> x.fault(1));
        fresh.answersAndStays("find", -1, x -> x.find(0));
        fresh.answersAndStays("find", -1, x -> x.find(1));
        fresh.answersAndStays("load", 0, PocketCompiler::load);
        fresh.answersAndStays("end", 1, x -> bit(x.end(0)));
        fresh.throwsAndStays("put", NoSuchElementException.class, x -> x.put(0));
        fresh.throwsAndStays("worked", NoSuchElementException.class, x -> x.worked(0));
        fresh.throwsAndStays("left", NoSuchElementException.class, x -> x.left(0, 0));
        fresh.throwsAndStays("work", NoSuchElementException.class, x -> x.work(0, 0, 0, 1));
    }
}
