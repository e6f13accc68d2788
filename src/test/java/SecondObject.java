import java.util.ArrayList;
import java.util.Arrays;
import java.util.List;
import java.util.NoSuchElementException;

/** The document's face done a second time. */
final class SecondObject {
    private static final int NONE = -1;

    private final int words;
    private String tape = "";
    private Second loaded;
    private int fault;
    private int place = NONE;
    private final List<Integer> given = new ArrayList<>();
    private final SecondMachine machine;
    private SecondMeaning working;
    private String shown = "";

    SecondObject(int words) {
        this.words = words < 256 || words > 4096 ? 1024 : words;
        loaded = new Second("", this.words);
        machine = new SecondMachine(this.words, given);
    }

    boolean feed(int a, int b, int c, int d, int e) {
        if (tape.length() > 3980) {
            return false;
        }
        for (int number : new int[] {a, b, c, d, e}) {
            for (int shift = 24; shift >= 0; shift -= 8) {
                tape += (char) (number >> shift & 255);
            }
        }
        return true;
    }

    boolean end(int n) {
        if (n < 0 || n > tape.length()) {
            return false;
        }
        tape = tape.substring(0, n);
        return true;
    }

    int load() {
        Second read = new Second(tape, words);
        tape = "";
        fault = read.fault;
        place = read.place;
        if (fault == 0) {
            loaded = read;
            working = null;
        }
        return fault;
    }

    int fault(int what) {
        return what == 0 ? fault : what == 1 ? place : NONE;
    }

    int code(int i) {
        if (i < 0) {
            throw new IndexOutOfBoundsException();
        }
        return i < loaded.code.length ? loaded.code[i] : 0;
    }

    int function(int f, int what) {
        if (f < 0 || f >= loaded.functions.size()) {
            return NONE;
        }
        Second.Function told = loaded.functions.get(f);
        return fact(what, told.parameters.size(), told.address, told.frame(), told.place);
    }

    int global(int g, int what) {
        if (g < 0 || g >= loaded.globals.size()) {
            return NONE;
        }
        Second.Told told = loaded.globals.get(g);
        return fact(what, told.size, told.address, told.isRow ? 1 : 0, told.place);
    }

    private static int fact(int what, int... facts) {
        return what >= 0 && what < facts.length ? facts[what] : NONE;
    }

    int find(int sort) {
        if (sort != 0 && sort != 1) {
            throw new IllegalArgumentException();
        }
        List<String> names = sort == 0 ? loaded.functions.stream().map(f -> f.name).toList()
            : loaded.globals.stream().map(g -> g.name).toList();
        return names.indexOf(tape);
    }

    int give(int v) {
        if (given.size() == 64) {
            return NONE;
        }
        given.add(v);
        return given.size();
    }

    int forget() {
        int before = given.size();
        given.clear();
        machine.used = 0;
        return before;
    }

    boolean start(int f, int a, int b) {
        int parameters = function(f, 0);
        if (parameters == NONE || parameters > 2) {
            return false;
        }
        Arrays.fill(machine.memory, (byte) 0);
        for (int k = 0; k < loaded.code.length; k++) {
            machine.store(4 * k, loaded.code[k], 4);
        }
        machine.store(4 * words - 4, a, 4);
        machine.store(4 * words - 8, b, 4);
        Arrays.fill(machine.x, 0);
        machine.x[5] = 4 * words - 4;
        machine.x[2] = 4 * words - 8;
        machine.pc = function(f, 1);
        machine.status = 0;
        machine.steps = 0;
        machine.puts.clear();
        machine.used = 0;
        return true;
    }

    int step() {
        machine.step();
        return machine.status;
    }

    int run(int n) {
        if (n < 0 || n > 50000) {
            throw new IllegalArgumentException();
        }
        int done = 0;
        while (done < n && machine.status == 0) {
            machine.step();
            done++;
        }
        return done;
    }

    int result() {
        return machine.status == 1 ? machine.x[10] : 0;
    }

    int register(int k) {
        checkRegister(k);
        return k == 32 ? machine.pc : machine.x[k];
    }

    void set(int k, int v) {
        checkRegister(k);
        if (k == 32) {
            machine.pc = v;
        } else if (k != 0) {
            machine.x[k] = v;
        }
        machine.status = 0;
    }

    private static void checkRegister(int k) {
        if (k < 0 || k > 32) {
            throw new IndexOutOfBoundsException();
        }
    }

    int word(int address) {
        checkAddress(address);
        return machine.load(address, 4);
    }

    void poke(int address, int v) {
        checkAddress(address);
        machine.store(address, v, 4);
    }

    private void checkAddress(int address) {
        if (address % 4 != 0) {
            throw new IllegalArgumentException();
        }
        if (address < 0 || address > 4 * words - 4) {
            throw new IndexOutOfBoundsException();
        }
    }

    int put(int k) {
        return kept(machine.puts, k);
    }

    private static int kept(List<Integer> numbers, int k) {
        if (k < 0 || k >= Math.min(200, numbers.size())) {
            throw new NoSuchElementException();
        }
        return numbers.get(k);
    }

    int show(int word) {
        shown = new SecondMachine(1, List.of()).show(word);
        return shown.length();
    }

    int octet(int k) {
        return k >= 0 && k < shown.length() ? shown.charAt(k) : NONE;
    }

    int work(int f, int a, int b, int n) {
        if (function(f, 0) == NONE) {
            throw new NoSuchElementException();
        }
        if (function(f, 0) > 2 || n < 0 || n > 20000) {
            throw new IllegalArgumentException();
        }
        working = new SecondMeaning(loaded, List.copyOf(given), n);
        working.work(loaded.functions.get(f), a, b);
        return working.outcome;
    }

    int told(int what) {
        return working == null ? NONE : fact(what, working.outcome, working.value, working.turns, working.mostBytes,
            working.puts.size(), working.got);
    }

    int worked(int k) {
        return kept(working == null ? List.of() : working.puts, k);
    }

    int left(int g, int k) {
        if (working == null || k < 0 || k >= global(g, 0)) {
            throw new NoSuchElementException();
        }
        return working.globals.get(loaded.globals.get(g))[k];
    }

    int count(int what) {
        return fact(what, tape.length(), loaded.code.length, loaded.functions.size(), loaded.globals.size(), loaded.limit,
            machine.status, machine.steps, machine.puts.size(), given.size(), words, machine.status == 1 ? machine.x[17] : 0);
    }
}
