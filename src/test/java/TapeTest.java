/** Promises 2, 3, 9: feed, end, find. */
public final class TapeTest {
    private static final int NONE = PocketCompiler.NONE;

    public static void main(String[] args) {
        Check check = new Check();
        feedsUpToTheBound(check);
        cuts(check);
        highestByteFirst(check);
        finds(check);
        check.end();
    }

    private static void feedsUpToTheBound(Check check) {
        PocketCompiler x = new PocketCompiler(256);
        for (int k = 1; k <= 200; k++) {
            check.yes("feed " + k, x.feed(0, 0, 0, 0, 0));
            check.same("bytes", x.count(0), 20 * k);
        }
        check.no("4,020 bytes", x.feed(0, 0, 0, 0, 0));
        check.same("none came", x.count(0), 4000);
        check.yes("one less", x.end(3999));
        check.no("still too many", x.feed(0, 0, 0, 0, 0));
        check.same("none came", x.count(0), 3999);
        check.yes("19 less", x.end(3981));
        check.no("4,001 bytes", x.feed(0, 0, 0, 0, 0));
        check.yes("20 less", x.end(3980));
        check.yes("now they fit", x.feed(0, 0, 0, 0, 0));
        check.same("bytes", x.count(0), 4000);
    }

    private static void cuts(Check check) {
        PocketCompiler x = new PocketCompiler(256);
        check.yes("none of none", x.end(0));
        check.no("one of none", x.end(1));
        x.feed(1, 2, 3, 4, 5);
        check.no("below 0", x.end(-1));
        check.no("least", x.end(Integer.MIN_VALUE));
        check.no("too many", x.end(21));
        check.no("most", x.end(Integer.MAX_VALUE));
        check.same("nothing happened", x.count(0), 20);
        check.yes("all", x.end(20));
        check.yes("some", x.end(7));
        check.same("some left", x.count(0), 7);
        check.no("gone", x.end(8));
        check.yes("none", x.end(0));
        check.same("empty", x.count(0), 0);
    }

    private static void highestByteFirst(Check check) {
        PocketCompiler x = new PocketCompiler(256);
        // "int abcde;" in two and a half numbers, then blanks of all sorts.
        x.feed(0x696E7420, 0x61626364, 0x653B0A0D, 0x09202020, 0x20202020);
        check.same("load", x.load(), 0);
        check.same("place of the name", x.global(0, 3), 4);
        x.feed(0x61626364, 0x65FFFFFF, -1, -1, -1);
        x.end(5);
        check.same("find abcde", x.find(1), 0);
    }

    private static void finds(Check check) {
        PocketCompiler x = Check.loaded(1024,
            "int a; int f(int p) { int local; return p; } int ab[2]; int abcdefghijklmno_() {} int F() {}");
        String[] functions = {"f", "abcdefghijklmno_", "F"};
        for (int k = 0; k < functions.length; k++) {
            Check.tape(x, functions[k]);
            check.same("function " + functions[k], x.find(0), k);
            check.same("no global " + functions[k], x.find(1), NONE);
            check.same("the tape stays", x.count(0), functions[k].length());
        }
        Check.tape(x, "a");
        check.same("global a", x.find(1), 0);
        check.same("no function a", x.find(0), NONE);
        Check.tape(x, "ab");
        check.same("global ab", x.find(1), 1);
        for (String none : new String[] {"", "p", "local", "A", "abc", "ab[", "f(", "f ", " f", "int", "abcdefghijklmno",
            "a\u0000"}) {
            Check.tape(x, none);
            check.same("function '" + none + "'", x.find(0), NONE);
            check.same("global '" + none + "'", x.find(1), NONE);
        }
        Check.tape(x, "f");
        for (int sort : new int[] {-1, 2, Integer.MIN_VALUE, Integer.MAX_VALUE}) {
            check.fails("sort " + sort, IllegalArgumentException.class, () -> x.find(sort));
        }
        check.same("the tape stays", x.count(0), 1);
        check.same("of what is loaded", Check.load(x, "int g"), 2);
        Check.tape(x, "f");
        check.same("what is loaded stays", x.find(0), 0);
        check.same("another text", Check.load(x, "int b; int a;"), 0);
        Check.tape(x, "a");
        check.same("global a is the second one", x.find(1), 1);
        Check.tape(x, "f");
        check.same("f is gone", x.find(0), NONE);
    }
}
