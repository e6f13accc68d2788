import java.util.ArrayList;
import java.util.IdentityHashMap;
import java.util.List;
import java.util.Map;

/** Terms 4 done a second time: a function worked out on the tree of its text. */
final class SecondMeaning {
    /** What a work ends with that has no value. */
    private static final class Reason extends RuntimeException {
        private static final long serialVersionUID = 1;
        private final int number;

        Reason(int number) {
            super(null, null, false, false);
            this.number = number;
        }
    }

    /** How a stat ends. */
    private enum Way {
        ON, BREAK, CONTINUE, RETURN
    }

    private final Second of;
    private final List<Integer> given;
    private final int mostTurns;
    int outcome;
    int value;
    int turns;
    int mostBytes;
    int got;
    final List<Integer> puts = new ArrayList<>();
    final Map<Second.Told, int[]> globals = new IdentityHashMap<>();
    private Map<Second.Told, int[]> locals;
    private int underWay;
    private int returned;

    SecondMeaning(Second of, List<Integer> given, int mostTurns) {
        this.of = of;
        this.given = given;
        this.mostTurns = mostTurns;
        for (Second.Told global : of.globals) {
            globals.put(global, new int[global.size]);
        }
    }

    void work(Second.Function f, int... arguments) {
        try {
            value = call(f, arguments);
        } catch (Reason reason) {
            outcome = reason.number;
        }
    }

    private void turn() {
        if (turns + 1 > mostTurns) {
            throw new Reason(4);
        }
        turns++;
    }

    private int call(Second.Function f, int[] arguments) {
        if (underWay + f.frame() + 8 > of.memory - of.limit) {
            throw new Reason(1);
        }
        turn();
        underWay += f.frame();
        mostBytes = Math.max(mostBytes, underWay);
        Map<Second.Told, int[]> outer = locals;
        locals = new IdentityHashMap<>();
        for (int k = 0; k < f.parameters.size(); k++) {
            locals.put(f.parameters.get(k), new int[] {arguments[k]});
        }
        int result = stat(f.body) == Way.RETURN ? returned : 0;
        locals = outer;
        underWay -= f.frame();
        return result;
    }

    private Way stat(Second.Node n) {
        switch (n.sort) {
            case "block":
                return block(n);
            case "e":
                e(n.part(0));
                return Way.ON;
            case "int":
                locals.put(n.told, new int[] {eOrZero(n)});
                return Way.ON;
            case "if":
                if (e(n.part(0)) != 0) {
                    return stat(n.part(1));
                }
                return n.parts.size() == 3 ? stat(n.part(2)) : Way.ON;
            case "break":
                return Way.BREAK;
            case "continue":
                return Way.CONTINUE;
            case "return":
                returned = eOrZero(n);
                return Way.RETURN;
            case "put":
                puts.add(e(n.part(0)));
                return Way.ON;
            case "do":
                return doStat(n);
            default:
                return loop(n);
        }
    }

    private Way block(Second.Node n) {
        for (Second.Node part : n.parts) {
            Way way = stat(part);
            if (way != Way.ON) {
                return way;
            }
        }
        return Way.ON;
    }

    private int eOrZero(Second.Node n) {
        return n.parts.isEmpty() ? 0 : e(n.part(0));
    }

    private Way doStat(Second.Node n) {
        do {
            turn();
            Way way = stat(n.part(1));
            if (way == Way.BREAK || way == Way.RETURN) {
                return way == Way.BREAK ? Way.ON : way;
            }
        } while (e(n.part(0)) != 0);
        return Way.ON;
    }

    /** A while, or a for, which has its first and its third E behind the parts that both have. */
    private Way loop(Second.Node n) {
        boolean isFor = n.sort.equals("for");
        if (isFor && n.part(2) != null) {
            e(n.part(2));
        }
        turn();
        while (n.part(0) == null || e(n.part(0)) != 0) {
            Way way = stat(n.part(1));
            if (way == Way.BREAK || way == Way.RETURN) {
                return way == Way.BREAK ? Way.ON : way;
            }
            if (isFor && n.part(3) != null) {
                e(n.part(3));
            }
            turn();
        }
        return Way.ON;
    }

    private int e(Second.Node n) {
        switch (n.sort) {
            case "number": return n.number;
            case "round": return e(n.part(0));
            case "get": got++; return got <= given.size() ? given.get(got - 1) : 0;
            case "name":
            case "row": return read(n);
            case "call": return call(of.named(n.sign), n.parts.stream().mapToInt(this::e).toArray());
            case "one": return one(n.sign, e(n.part(0)));
            case "?": return e(n.part(0)) != 0 ? e(n.part(1)) : e(n.part(2));
            case "two": return two(n);
            default: return set(n);
        }
    }

    private int indexOf(Second.Node place) {
        int index = place.told.isRow ? e(place.part(0)) : 0;
        if (index < 0 || index >= place.told.size) {
            throw new Reason(3);
        }
        return index;
    }

    private int[] home(Second.Told told) {
        return told.isGlobal ? globals.get(told) : locals.get(told);
    }

    private int read(Second.Node place) {
        int index = indexOf(place);
        return home(place.told)[index];
    }

    private int set(Second.Node n) {
        int index = indexOf(n.part(0));
        int[] home = home(n.part(0).told);
        int before = home[index];
        int right = e(n.part(1));
        home[index] = n.sign.isEmpty() ? right : op(n.sign, before, right);
        return home[index];
    }

    private static int one(String sign, int v) {
        switch (sign) {
            case "-": return -v;
            case "~": return ~v;
            default: return v == 0 ? 1 : 0;
        }
    }

    private int two(Second.Node n) {
        int left = e(n.part(0));
        if (n.sign.equals("&&")) {
            return left != 0 && e(n.part(1)) != 0 ? 1 : 0;
        }
        if (n.sign.equals("||")) {
            return left != 0 || e(n.part(1)) != 0 ? 1 : 0;
        }
        return op(n.sign, left, e(n.part(1)));
    }

    /** With 64 bits, so that nothing goes round before the end. */
    private static int op(String sign, long left, long right) {
        switch (sign) {
            case "+": return (int) (left + right);
            case "-": return (int) (left - right);
            case "*": return (int) (left * right);
            case "/": return (int) (left / divisor(right));
            case "%": return (int) (left % divisor(right));
            case "&": return (int) (left & right);
            case "|": return (int) (left | right);
            case "^": return (int) (left ^ right);
            case "<<": return (int) (left << (right & 31));
            case ">>": return (int) (left >> (right & 31));
            case "<": return left < right ? 1 : 0;
            case "<=": return left <= right ? 1 : 0;
            case ">": return left > right ? 1 : 0;
            case ">=": return left >= right ? 1 : 0;
            case "==": return left == right ? 1 : 0;
            default: return left != right ? 1 : 0;
        }
    }

    private static long divisor(long right) {
        if (right == 0) {
            throw new Reason(2);
        }
        return right;
    }
}
