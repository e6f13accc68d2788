/** Promises 1 to 5, 9 to 11: the tape, the names and the numbers given at their edges. */
public final class TapeEdgesTest {
    private static final Check CHECK = new Check();
    private static final int NONE = PocketCompiler.NONE;
    private static final int LEAST = Integer.MIN_VALUE;
    private static final int MOST = Integer.MAX_VALUE;

    public static void main(String[] args) {
        words();
        bytesOfNumbers();
        mostBytes();
        firstBytes();
        loads();
        faults();
        finds();
        findsBySort();
        gives();
        forgets();
        CHECK.end();
    }

    /** Promise 1: "(256 .. 4096; others: 1024)". */
    private static void words() {
        int[][] due = {{LEAST, 1024}, {-256, 1024}, {-1, 1024}, {0, 1024}, {1, 1024}, {254, 1024}, {255, 1024}, {256, 256}, {257, 257},
            {1023, 1023}, {1024, 1024}, {1025, 1025}, {4095, 4095}, {4096, 4096}, {4097, 1024}, {65536 + 256, 1024}, {MOST, 1024}};
        for (int[] d : due) {
            PocketCompiler x = new PocketCompiler(d[0]);
            CHECK.same("words of " + d[0], x.count(9), d[1]);
            CHECK.same("the last word", x.word(4 * d[1] - 4), 0);
            CHECK.fails("behind it", IndexOutOfBoundsException.class, () -> x.word(4 * d[1]));
            for (int k = 0; k < 40; k++) {
                CHECK.same("all 0", x.word(4 * (k * 7919 % d[1])), 0);
            }
            CHECK.same("code, not laid", x.code(0), 0x893);
            CHECK.same("code, not laid", x.word(0), 0);
            CHECK.same("RUNNING", x.count(5), 0);
        }
    }

    /** Promise 2: "of each number the highest first": twenty bytes, each at its place. */
    private static void bytesOfNumbers() {
        PocketCompiler x = new PocketCompiler(256);
        CHECK.yes("feed", x.feed(0x696E7420, 0x61626364, 0x65666768, 0x696A6B6C, 0x6D6E6F3B));
        CHECK.same("bytes", x.count(0), 20);
        CHECK.same("int abcdefghijklmno;", x.load(), 0);
        CHECK.same("place", x.global(0, 3), 4);
        CHECK.yes("feed", x.feed(0x61626364, 0x65666768, 0x696A6B6C, 0x6D6E6F00, 0));
        CHECK.yes("end", x.end(15));
        CHECK.same("abcdefghijklmno", x.find(1), 0);
        // Every byte of the twenty is where it should be, also above 127.
        for (int k = 0; k < 20; k++) {
            for (int b : new int[] {0, 1, 127, 128, 255}) {
                int[] numbers = {0x20202020, 0x20202020, 0x20202020, 0x20202020, 0x20202020};
                int shift = 24 - 8 * (k % 4);
                numbers[k / 4] = numbers[k / 4] & ~(255 << shift) | b << shift;
                PocketCompiler y = new PocketCompiler(256);
                y.feed(numbers[0], numbers[1], numbers[2], numbers[3], numbers[4]);
                CHECK.same("byte " + b + " at " + k, y.load(), 1);
                CHECK.same("its place", y.fault(1), k);
            }
        }
        // They come behind those that are there.
        PocketCompiler z = new PocketCompiler(256);
        z.feed(0x696E7420, 0x61202020, 0x24242424, 0x24242424, 0x24242424);
        z.end(6);
        z.feed(0x3B202020, 0x20202020, 0x20202020, 0x20202020, 0x20202024);
        CHECK.same("bytes", z.count(0), 26);
        CHECK.same("int a ; $", z.load(), 1);
        CHECK.same("its place", z.fault(1), 25);
    }

    /** Promise 2: "false, and none comes, if it would have more than 4,000". */
    private static void mostBytes() {
        for (int size : new int[] {3979, 3980, 3981, 3999, 4000}) {
            PocketCompiler x = new PocketCompiler(256);
            for (int k = 0; k < 200; k++) {
                CHECK.yes("feed", x.feed(0x20202020, 0x20202020, 0x20202020, 0x20202020, 0x20202020));
            }
            CHECK.same("bytes", x.count(0), 4000);
            CHECK.yes("end", x.end(size));
            boolean isFine = size <= 3980;
            CHECK.same("feed behind " + size, x.feed(0x24242424, 0x24242424, 0x24242424, 0x24242424, 0x24242424) ? 1 : 0,
                isFine ? 1 : 0);
            CHECK.same("bytes", x.count(0), isFine ? size + 20 : size);
            CHECK.same("load", x.load(), isFine ? 1 : 0);
            CHECK.same("place", x.fault(1), isFine ? size : NONE);
            CHECK.same("empty", x.count(0), 0);
            CHECK.yes("feed", x.feed(0, 0, 0, 0, 0));
            CHECK.same("bytes", x.count(0), 20);
        }
    }

    /** Promise 3: "false, and nothing happens, if it has not so many, or n is below 0". */
    private static void firstBytes() {
        for (int size : new int[] {0, 1, 19, 20, 21, 40}) {
            for (int n : new int[] {LEAST, -1, 0, 1, size - 1, size, size + 1, 4000, 4001, MOST}) {
                PocketCompiler x = new PocketCompiler(256);
                x.feed(0x696E7420, 0x613B2020, 0x20202020, 0x20202020, 0x20202020);
                x.feed(0x20202020, 0x20202020, 0x20202020, 0x20202020, 0x20202020);
                x.end(size);
                boolean isFine = n >= 0 && n <= size;
                CHECK.same("end " + n + " of " + size, x.end(n) ? 1 : 0, isFine ? 1 : 0);
                int left = isFine ? n : size;
                CHECK.same("bytes", x.count(0), left);
                CHECK.same("load", x.load(), left == 0 || left >= 6 ? 0 : 2);
                CHECK.same("globals", x.count(3), left >= 6 ? 1 : 0);
            }
        }
    }

    /** Promise 4: "The tape, which is empty then, is read: 0, and its text is loaded ..; or its FAULT, and what is loaded stays". */
    private static void loads() {
        PocketCompiler x = new PocketCompiler(256);
        CHECK.same("an empty tape", x.load(), 0);
        CHECK.same("functions", x.count(2), 0);
        CHECK.same("a text", Check.load(x, "int v; int f() { return 5; }"), 0);
        CHECK.same("empty", x.count(0), 0);
        CHECK.no("empty", x.end(1));
        CHECK.same("functions", x.count(2), 1);
        String[] faults = {"$", "int", "int v; int v;", "int f() { f(1); }", "int r[0];", "int f() { break; }", "int r[300];"};
        for (int k = 0; k < faults.length; k++) {
            CHECK.same("fault of " + faults[k], Check.load(x, faults[k]), k + 1);
            CHECK.same("empty", x.count(0), 0);
            CHECK.same("functions stay", x.count(2), 1);
            CHECK.same("globals stay", x.count(3), 1);
            CHECK.same("words stay", x.count(1), 18);
            CHECK.same("code stays", x.code(11), 0x00500513);
            Check.tape(x, "f");
            CHECK.same("names stay", x.find(0), 0);
            CHECK.yes("it can be started", x.start(0, 0, 0));
            x.run(100);
            CHECK.same("result", x.result(), 5);
            CHECK.same("and worked", x.work(0, 0, 0, 1), 0);
            CHECK.same("value", x.told(1), 5);
        }
        x.end(0);
        CHECK.same("an empty tape", x.load(), 0);
        CHECK.same("functions", x.count(2), 0);
        CHECK.same("words", x.count(1), 2);
    }

    /** Promise 5: "0 its FAULT (0 without, or ahead of any), 1 its place (NONE likewise). NONE for another what". */
    private static void faults() {
        PocketCompiler x = new PocketCompiler(256);
        int[] others = {-1, 2, 3, LEAST, MOST};
        for (int again = 0; again < 2; again++) {
            CHECK.same("none", x.fault(0), 0);
            CHECK.same("no place", x.fault(1), NONE);
            CHECK.same("a fault", Check.load(x, "$"), 1);
            CHECK.same("its number", x.fault(0), 1);
            CHECK.same("its place", x.fault(1), 0);
            CHECK.same("another fault", Check.load(x, "int a"), 2);
            CHECK.same("its number", x.fault(0), 2);
            CHECK.same("its place", x.fault(1), 5);
            for (int what : others) {
                CHECK.same("another what", x.fault(what), NONE);
            }
            x.feed(0, 0, 0, 0, 0);
            x.end(0);
            x.start(0, 0, 0);
            CHECK.same("it stays", x.fault(0), 2);
            CHECK.same("no fault", Check.load(x, "int a;"), 0);
            for (int what : others) {
                CHECK.same("another what", x.fault(what), NONE);
            }
        }
        CHECK.same("none", x.fault(0), 0);
        CHECK.same("no place", x.fault(1), NONE);
    }

    private static void find(PocketCompiler x, String name, int function, int global) {
        Check.tape(x, name);
        CHECK.same("function " + name, x.find(0), function);
        CHECK.same("global " + name, x.find(1), global);
        CHECK.same("the tape stays", x.count(0), name.length());
        CHECK.same("function " + name + " again", x.find(0), function);
    }

    /** Promise 9: "whose NAME is the tape, byte by byte (the tape stays); NONE". */
    private static void finds() {
        PocketCompiler x = Check.loaded(256, "int a;int ab[2];int abcdefghijklmnop;int f(int p){int q;}int f2(){}int _(){}int Z9_z;");
        find(x, "a", NONE, 0);
        find(x, "ab", NONE, 1);
        find(x, "abcdefghijklmnop", NONE, 2);
        find(x, "Z9_z", NONE, 3);
        find(x, "f", 0, NONE);
        find(x, "f2", 1, NONE);
        find(x, "_", 2, NONE);
        String[] none = {"", "A", "b", "abc", "abcdefghijklmno", "abcdefghijklmnopq", "abcdefghijklmnoq", "bbcdefghijklmnop", "F", "f1",
            "f22", "f(", "f ", " f", "f\n", "a;", "int", "int a", "p", "q", "__", "Z9_", "Z9_zz", "z9_z", "\u0000", "a\u0000", "\u0000a",
            "\u00e1", "a\u0080"};
        for (String name : none) {
            find(x, name, NONE, NONE);
        }
    }

    /** Promise 9: the first and the last one of each sort; "IllegalArgumentException: another sort". */
    private static void findsBySort() {
        StringBuilder text = new StringBuilder();
        for (int k = 0; k < 40; k++) {
            text.append("int f").append(k).append("(){}");
        }
        for (int k = 0; k < 60; k++) {
            text.append("int g").append(k).append(";");
        }
        PocketCompiler x = Check.loaded(1024, text.toString());
        find(x, "f0", 0, NONE);
        find(x, "f39", 39, NONE);
        find(x, "f40", NONE, NONE);
        find(x, "g0", NONE, 0);
        find(x, "g59", NONE, 59);
        find(x, "g60", NONE, NONE);
        Check.tape(x, "f7");
        for (int sort : new int[] {-1, 2, 3, LEAST, MOST}) {
            CHECK.fails("sort " + sort, IllegalArgumentException.class, () -> x.find(sort));
        }
        CHECK.same("the tape stays", x.find(0), 7);
        // A name that is gone with its text.
        CHECK.same("another text", Check.load(x, "int f39;"), 0);
        find(x, "f39", NONE, 0);
        find(x, "f7", NONE, NONE);
        // A fault leaves the names as they were.
        CHECK.same("a fault", Check.load(x, "int f38; int f39(){} $"), 1);
        find(x, "f39", NONE, 0);
        find(x, "f38", NONE, NONE);
    }

    /** Promise 10: "how many there are; NONE if there are 64". */
    private static void gives() {
        for (int already : new int[] {0, 1, 62, 63, 64}) {
            PocketCompiler x = Check.loaded(256, "int f(int n) { int v; do v = get(); while (n -= 1); return v; }");
            for (int k = 1; k <= already; k++) {
                CHECK.same("give", x.give(k * 1000), k);
            }
            CHECK.same("GIVEN", x.count(8), already);
            CHECK.same("one more", x.give(-5), already < 64 ? already + 1 : NONE);
            CHECK.same("GIVEN", x.count(8), Math.min(already + 1, 64));
            for (int n = Math.max(1, already - 1); n <= already + 2; n++) {
                int due = n <= already ? n * 1000 : n == already + 1 && already < 64 ? -5 : 0;
                CHECK.same("work", x.work(0, n, 0, 100), 0);
                CHECK.same("number " + n + " by the meaning", x.told(1), due);
                x.start(0, n, 0);
                x.run(5000);
                CHECK.same("number " + n + " by the processor", x.result(), due);
            }
            CHECK.same("GIVEN still", x.count(8), Math.min(already + 1, 64));
        }
        PocketCompiler y = new PocketCompiler(256);
        for (int k = 1; k <= 64; k++) {
            y.give(k);
        }
        CHECK.same("NONE", y.give(0), NONE);
        CHECK.same("NONE again", y.give(0), NONE);
        CHECK.same("forget", y.forget(), 64);
        CHECK.same("the first one again", y.give(LEAST), 1);
    }

    /** Promise 11: "No number is GIVEN any more (RUN and work(): 0 from now on): how many there were". */
    private static void forgets() {
        PocketCompiler x = Check.loaded(256, "int f() { put(get()); put(get()); put(get()); return get(); }");
        CHECK.same("none", x.forget(), 0);
        CHECK.same("none", x.forget(), 0);
        for (int count : new int[] {1, 2, 63, 64}) {
            for (int k = 0; k < count; k++) {
                x.give(7 + k);
            }
            CHECK.same("how many", x.forget(), count);
            CHECK.same("GIVEN", x.count(8), 0);
            CHECK.same("none any more", x.forget(), 0);
            x.work(0, 0, 0, 1);
            CHECK.same("by the meaning", x.told(1), 0);
            CHECK.same("by the meaning", x.worked(0), 0);
            CHECK.same("got", x.told(5), 4);
            x.start(0, 0, 0);
            x.run(1000);
            CHECK.same("by the processor", x.put(0), 0);
            CHECK.same("by the processor", x.result(), 0);
        }
        // In the midst of a run.
        for (int k = 0; k < 4; k++) {
            x.give(40 + k);
        }
        x.start(0, 0, 0);
        for (int k = 0; k < 100 && x.count(7) < 2; k++) {
            x.step();
        }
        CHECK.same("forget", x.forget(), 4);
        x.run(1000);
        CHECK.same("ahead of it", x.put(0), 40);
        CHECK.same("ahead of it", x.put(1), 41);
        CHECK.same("behind it", x.put(2), 0);
        CHECK.same("behind it", x.result(), 0);
        // What the latest work() got is told still.
        x.give(9);
        x.work(0, 0, 0, 1);
        x.forget();
        CHECK.same("worked", x.worked(0), 9);
    }
}
