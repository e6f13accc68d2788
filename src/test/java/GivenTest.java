/** Promises 10, 11: give, forget. */
public final class GivenTest {
    public static void main(String[] args) {
        Check check = new Check();
        PocketCompiler x = Check.loaded(256, "int f() { return get() * 10000 + get() * 100 + get(); }");
        check.same("nothing to forget", x.forget(), 0);
        check.same("first", x.give(11), 1);
        check.same("second", x.give(12), 2);
        bothAnswer(check, x, 111200);
        check.same("third", x.give(13), 3);
        check.same("GIVEN", x.count(8), 3);
        bothAnswer(check, x, 111213);
        bothAnswer(check, x, 111213);
        check.same("forget", x.forget(), 3);
        check.same("GIVEN", x.count(8), 0);
        bothAnswer(check, x, 0);
        for (int k = 1; k <= 64; k++) {
            check.same("give", x.give(k), k);
        }
        check.same("no 65th", x.give(1), PocketCompiler.NONE);
        check.same("GIVEN", x.count(8), 64);
        bothAnswer(check, x, 10203);
        check.same("forget", x.forget(), 64);
        check.same("give anew", x.give(-1), 1);
        bothAnswer(check, x, -10000);
        givenWhileRunning(check);
        check.end();
    }

    private static void bothAnswer(Check check, PocketCompiler x, int due) {
        x.start(0, 0, 0);
        x.run(50000);
        check.same("run", x.result(), due);
        x.work(0, 0, 0, 1);
        check.same("work", x.told(1), due);
        check.same("got", x.told(5), 3);
    }

    /** A number that comes behind the last one used is the next one. */
    private static void givenWhileRunning(Check check) {
        PocketCompiler x = new PocketCompiler(256);
        for (int k = 0; k < 6; k++) {
            x.poke(4 * k, 0x73);
        }
        x.set(17, 2);
        x.set(10, 5);
        x.step();
        check.same("nothing given", x.register(10), 0);
        x.give(7);
        x.step();
        check.same("given meanwhile", x.register(10), 7);
        x.step();
        check.same("behind the last one", x.register(10), 0);
        x.give(8);
        x.give(9);
        x.step();
        check.same("the next one", x.register(10), 8);
        x.forget();
        x.step();
        check.same("forgotten", x.register(10), 0);
        x.give(3);
        x.step();
        check.same("given anew", x.register(10), 3);
    }
}
