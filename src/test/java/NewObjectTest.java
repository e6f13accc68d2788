/** Promise 1: a new object. */
public final class NewObjectTest {
    public static void main(String[] args) {
        Check check = new Check();
        int[][] sizes = {{256, 256}, {4096, 4096}, {1000, 1000}, {255, 1024}, {4097, 1024}, {0, 1024}, {-1, 1024},
            {Integer.MIN_VALUE, 1024}, {Integer.MAX_VALUE, 1024}};
        for (int[] size : sizes) {
            PocketCompiler x = new PocketCompiler(size[0]);
            check.same("words told " + size[0], x.count(9), size[1]);
            for (int k = 0; k < size[1]; k += 15) {
                check.same("memory is 0", x.word(4 * k), 0);
            }
            check.same("the last word", x.word(4 * size[1] - 4), 0);
            check.fails("behind the last word", IndexOutOfBoundsException.class, () -> x.word(4 * size[1]));
        }
        PocketCompiler x = new PocketCompiler(256);
        check.same("words of code", x.count(1), 2);
        check.same("ADDI A7, Z, 0", x.code(0), 2195);
        check.same("EBREAK", x.code(1), 1048691);
        check.same("LIMIT", x.count(4), 8);
        check.same("RUNNING", x.count(5), 0);
        for (int k = 0; k <= 32; k++) {
            check.same("register " + k, x.register(k), 0);
        }
        for (int what : new int[] {0, 2, 3, 6, 7, 8, 10}) {
            check.same("count " + what, x.count(what), 0);
        }
        check.same("no fault yet", x.fault(0), 0);
        check.same("no place yet", x.fault(1), PocketCompiler.NONE);
        check.same("no text shown", x.octet(0), PocketCompiler.NONE);
        check.same("nothing worked", x.told(0), PocketCompiler.NONE);
        check.same("no function", x.function(0, 0), PocketCompiler.NONE);
        check.no("nothing to start", x.start(0, 0, 0));
        check.same("the code is not laid: 0 is ILLEGAL", x.step(), 2);
        check.end();
    }
}
