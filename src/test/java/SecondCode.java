import java.util.ArrayList;
import java.util.IdentityHashMap;
import java.util.List;
import java.util.Map;

/** Terms 2 done a second time: words laid from the tree of a text. */
final class SecondCode {
    private static final int Z = 0;
    private static final int RA = 1;
    private static final int SP = 2;
    private static final int T0 = 5;
    private static final int T1 = 6;
    private static final int FP = 8;
    private static final int A0 = 10;
    private static final int A7 = 17;
    private static final int T3 = 28;

    // Registers by their numbers, as the document has the lines.
    private static final String MUL = "addi 6 0 0; beq 10 0 28; andi 7 10 1; beq 7 0 8; add 6 6 5; slli 5 5 1; "
        + "srli 10 10 1; jal 0 -24; addi 10 6 0; jalr 0 28 0";
    private static final String DIV = "bne 10 0 12; addi 17 0 2; ebreak; xor 29 5 10; addi 30 5 0; bge 5 0 8; sub 5 0 5; "
        + "bge 10 0 8; sub 10 0 10; addi 6 0 0; addi 7 0 32; srli 31 5 31; slli 5 5 1; slli 6 6 1; or 6 6 31; "
        + "bltu 6 10 12; sub 6 6 10; ori 5 5 1; addi 7 7 -1; bne 7 0 -32; addi 10 5 0; bge 29 0 8; sub 10 0 10; "
        + "bge 30 0 8; sub 6 0 6; jalr 0 28 0";

    /** A place in the code, known or not yet. */
    private static final class Label {
        private int address = -1;
        private final List<Integer> waiting = new ArrayList<>();
    }

    private final Second of;
    private final Map<Second.Function, Label> functions = new IdentityHashMap<>();
    private final Label mul = new Label();
    private final Label div = new Label();
    private final List<Integer> words = new ArrayList<>();
    private Label end;
    private Label breakTo;
    private Label continueTo;

    private SecondCode(Second of) {
        this.of = of;
        of.functions.forEach(f -> functions.put(f, new Label()));
    }

    /** Lays it twice: the second time the addresses of the globals, and LIMIT, are known. */
    static void layInto(Second of) {
        new SecondCode(of).layAll();
        of.code = new SecondCode(of).layAll();
    }

    private int[] layAll() {
        line("addi 17 0 0");
        line("ebreak");
        of.functions.forEach(this::layFunction);
        if (!mul.waiting.isEmpty()) {
            here(mul);
            lines(MUL);
        }
        if (!div.waiting.isEmpty()) {
            here(div);
            lines(DIV);
        }
        int address = 4 * words.size();
        for (Second.Told global : of.globals) {
            global.address = address;
            address += 4 * global.size;
        }
        of.limit = address;
        return words.stream().mapToInt(Integer::intValue).toArray();
    }

    // Words.

    private void lines(String lines) {
        for (String line : lines.split("; ")) {
            line(line);
        }
    }

    private void line(String line) {
        String[] part = line.split(" ");
        int[] n = new int[3];
        for (int k = 1; k < part.length; k++) {
            n[k - 1] = Integer.parseInt(part[k]);
        }
        switch (part[0]) {
            case "addi": i(0x13, 0, n[0], n[1], n[2]); break;
            case "slli": i(0x13, 1, n[0], n[1], n[2]); break;
            case "sltiu": i(0x13, 3, n[0], n[1], n[2]); break;
            case "xori": i(0x13, 4, n[0], n[1], n[2]); break;
            case "srli": i(0x13, 5, n[0], n[1], n[2]); break;
            case "ori": i(0x13, 6, n[0], n[1], n[2]); break;
            case "andi": i(0x13, 7, n[0], n[1], n[2]); break;
            case "jalr": i(0x67, 0, n[0], n[1], n[2]); break;
            case "beq": b(0, n[0], n[1], n[2]); break;
            case "bne": b(1, n[0], n[1], n[2]); break;
            case "bge": b(5, n[0], n[1], n[2]); break;
            case "bltu": b(6, n[0], n[1], n[2]); break;
            case "add": r(0, 0, n[0], n[1], n[2]); break;
            case "sub": r(32, 0, n[0], n[1], n[2]); break;
            case "sll": r(0, 1, n[0], n[1], n[2]); break;
            case "slt": r(0, 2, n[0], n[1], n[2]); break;
            case "sltu": r(0, 3, n[0], n[1], n[2]); break;
            case "xor": r(0, 4, n[0], n[1], n[2]); break;
            case "sra": r(32, 5, n[0], n[1], n[2]); break;
            case "or": r(0, 6, n[0], n[1], n[2]); break;
            case "and": r(0, 7, n[0], n[1], n[2]); break;
            case "jal": words.add(jal(n[0], n[1])); break;
            case "ecall": words.add(0x73); break;
            case "ebreak": words.add(0x100073); break;
            default: throw new IllegalStateException(line);
        }
    }

    private static long bits(long v, int high, int low) {
        return v >> low & (1L << high - low + 1) - 1;
    }

    private void i(int opcode, int f3, int rd, int rs, int v) {
        if (v < -2048 || v > 2047) {
            throw new IllegalStateException("no twelve bits: " + v);
        }
        words.add((int) (bits(v, 11, 0) << 20 | (long) rs << 15 | (long) f3 << 12 | (long) rd << 7 | opcode));
    }

    private void b(int f3, int rs1, int rs2, int v) {
        words.add((int) (bits(v, 12, 12) << 31 | bits(v, 10, 5) << 25 | (long) rs2 << 20 | (long) rs1 << 15
            | (long) f3 << 12 | bits(v, 4, 1) << 8 | bits(v, 11, 11) << 7 | 0x63));
    }

    private void r(int f7, int f3, int rd, int rs1, int rs2) {
        words.add((int) ((long) f7 << 25 | (long) rs2 << 20 | (long) rs1 << 15 | (long) f3 << 12 | (long) rd << 7 | 0x33));
    }

    private static int jal(int rd, int v) {
        return (int) (bits(v, 20, 20) << 31 | bits(v, 10, 1) << 21 | bits(v, 11, 11) << 20 | bits(v, 19, 12) << 12
            | (long) rd << 7 | 0x6F);
    }

    private void addi(int rd, int rs, int v) {
        i(0x13, 0, rd, rs, v);
    }

    private void lw(int rd, int v, int rs) {
        i(3, 2, rd, rs, v);
    }

    private void sw(int rs2, int v, int rs1) {
        words.add((int) (bits(v, 11, 5) << 25 | (long) rs2 << 20 | (long) rs1 << 15 | 2L << 12 | bits(v, 4, 0) << 7 | 0x23));
    }

    private static int hi(int v) {
        return (int) ((v + 2048 & 0xFFFFFFFFL) >> 12);
    }

    private static int lo(int v) {
        return v - hi(v) * 4096;
    }

    private void lui(int rd, int v) {
        words.add(hi(v) * 4096 | rd << 7 | 0x37);
    }

    private static int s(int slot) {
        return -12 - 4 * slot;
    }

    // Labels.

    private void to(Label label) {
        jump(Z, label);
    }

    private void jump(int rd, Label label) {
        label.waiting.add(words.size());
        words.add(jal(rd, label.address - 4 * words.size()));
    }

    private void here(Label label) {
        label.address = 4 * words.size();
        for (int k : label.waiting) {
            words.set(k, jal(words.get(k) >> 7 & 31, label.address - 4 * k));
        }
    }

    // Functions and stats.

    private void layFunction(Second.Function f) {
        int frame = f.frame();
        f.address = 4 * words.size();
        here(functions.get(f));
        end = new Label();
        addi(SP, SP, -frame);
        lui(T1, of.limit);
        addi(T1, T1, lo(of.limit));
        b(5, SP, T1, 12);
        lines("addi 17 0 1; ebreak");
        sw(RA, frame - 4, SP);
        sw(FP, frame - 8, SP);
        addi(FP, SP, frame);
        for (int k = 0; k < f.parameters.size(); k++) {
            lw(T1, -4 * k, T0);
            sw(T1, s(k), FP);
        }
        stat(f.body);
        addi(A0, Z, 0);
        here(end);
        lw(RA, -4, FP);
        addi(SP, FP, 0);
        lw(FP, -8, FP);
        line("jalr 0 1 0");
    }

    private void stat(Second.Node n) {
        switch (n.sort) {
            case "block": n.parts.forEach(this::stat); break;
            case "e": e(n.part(0)); break;
            case "int": eOrZero(n); sw(A0, s(n.told.slot), FP); break;
            case "if": ifStat(n); break;
            case "break": to(breakTo); break;
            case "continue": to(continueTo); break;
            case "return": eOrZero(n); to(end); break;
            case "put": e(n.part(0)); lines("addi 17 0 1; ecall"); break;
            default: loop(n); break;
        }
    }

    private void eOrZero(Second.Node n) {
        if (n.parts.isEmpty()) {
            addi(A0, Z, 0);
        } else {
            e(n.part(0));
        }
    }

    private void toIfZero(Label x) {
        line("bne 10 0 8");
        to(x);
    }

    private void ifStat(Second.Node n) {
        Label x = new Label();
        Label y = new Label();
        e(n.part(0));
        toIfZero(x);
        stat(n.part(1));
        if (n.parts.size() == 2) {
            here(x);
            return;
        }
        to(y);
        here(x);
        stat(n.part(2));
        here(y);
    }

    private void loop(Second.Node n) {
        Label outerBreak = breakTo;
        Label outerContinue = continueTo;
        breakTo = new Label();
        continueTo = new Label();
        switch (n.sort) {
            case "while": whileStat(n); break;
            case "do": doStat(n); break;
            default: forStat(n); break;
        }
        here(breakTo);
        breakTo = outerBreak;
        continueTo = outerContinue;
    }

    private void whileStat(Second.Node n) {
        here(continueTo);
        e(n.part(0));
        toIfZero(breakTo);
        stat(n.part(1));
        to(continueTo);
    }

    private void doStat(Second.Node n) {
        Label y = new Label();
        here(y);
        stat(n.part(1));
        here(continueTo);
        e(n.part(0));
        line("beq 10 0 8");
        to(y);
    }

    private void forStat(Second.Node n) {
        Label y = new Label();
        Label round = new Label();
        if (n.part(2) != null) {
            e(n.part(2));
        }
        here(y);
        if (n.part(0) != null) {
            e(n.part(0));
            toIfZero(breakTo);
        }
        to(round);
        here(continueTo);
        if (n.part(3) != null) {
            e(n.part(3));
        }
        to(y);
        here(round);
        stat(n.part(1));
        to(continueTo);
    }

    // E's.

    private void e(Second.Node n) {
        switch (n.sort) {
            case "number": number(n.number); break;
            case "round": e(n.part(0)); break;
            case "get": lines("addi 17 0 2; ecall"); break;
            case "name": value(n.told); break;
            case "row": indexed(n); lw(A0, lo(n.told.address), A0); break;
            case "call": call(n); break;
            case "one": one(n); break;
            case "?": choice(n); break;
            case "two": two(n); break;
            default: set(n); break;
        }
    }

    private void number(int v) {
        if (v >= -2048 && v <= 2047) {
            addi(A0, Z, v);
        } else {
            lui(A0, v);
            addi(A0, A0, lo(v));
        }
    }

    private void value(Second.Told told) {
        if (told.isGlobal) {
            lui(T1, told.address);
            lw(A0, lo(told.address), T1);
        } else {
            lw(A0, s(told.slot), FP);
        }
    }

    private void indexed(Second.Node n) {
        e(n.part(0));
        lui(T1, n.told.size);
        addi(T1, T1, lo(n.told.size));
        lines("bltu 10 6 12; addi 17 0 3; ebreak; slli 10 10 2");
        lui(T1, n.told.address);
        line("add 10 10 6");
    }

    private void call(Second.Node n) {
        for (int k = 0; k < n.parts.size(); k++) {
            e(n.part(k));
            sw(A0, s(n.slot + k), FP);
        }
        if (!n.parts.isEmpty()) {
            addi(T0, FP, s(n.slot));
        }
        jump(RA, functions.get(of.named(n.sign)));
    }

    private void one(Second.Node n) {
        e(n.part(0));
        switch (n.sign) {
            case "-": line("sub 10 0 10"); break;
            case "!": line("sltiu 10 10 1"); break;
            default: line("xori 10 10 -1"); break;
        }
    }

    private void choice(Second.Node n) {
        Label x = new Label();
        Label y = new Label();
        e(n.part(0));
        toIfZero(x);
        e(n.part(1));
        to(y);
        here(x);
        e(n.part(2));
        here(y);
    }

    private void two(Second.Node n) {
        Label y = new Label();
        boolean isBoth = n.sign.equals("&&");
        e(n.part(0));
        if (!isBoth && !n.sign.equals("||")) {
            sw(A0, s(n.slot), FP);
            e(n.part(1));
            op(n.sign, n.slot);
            return;
        }
        lines(isBoth ? "bne 10 0 8" : "beq 10 0 12; addi 10 0 1");
        to(y);
        e(n.part(1));
        line("sltu 10 0 10");
        here(y);
    }

    /** The left side lies in a slot. */
    private void op(String sign, int slot) {
        lw(T0, s(slot), FP);
        switch (sign) {
            case "+": line("add 10 5 10"); break;
            case "-": line("sub 10 5 10"); break;
            case "&": line("and 10 5 10"); break;
            case "|": line("or 10 5 10"); break;
            case "^": line("xor 10 5 10"); break;
            case "<<": line("sll 10 5 10"); break;
            case ">>": line("sra 10 5 10"); break;
            case "<": line("slt 10 5 10"); break;
            case ">": line("slt 10 10 5"); break;
            case "<=": lines("slt 10 10 5; xori 10 10 1"); break;
            case ">=": lines("slt 10 5 10; xori 10 10 1"); break;
            case "==": lines("sub 10 5 10; sltiu 10 10 1"); break;
            case "!=": lines("sub 10 5 10; sltu 10 0 10"); break;
            case "*": jump(T3, mul); break;
            case "/": jump(T3, div); break;
            case "%": jump(T3, div); line("addi 10 6 0"); break;
            default: throw new IllegalStateException(sign);
        }
    }

    private void set(Second.Node n) {
        Second.Told told = n.part(0).told;
        int first = n.slot;
        int second = told.isRow ? n.slot + 1 : n.slot;
        if (told.isRow) {
            indexed(n.part(0));
            addi(A0, A0, lo(told.address));
            sw(A0, s(first), FP);
        }
        if (!n.sign.isEmpty()) {
            if (told.isRow) {
                lw(A0, 0, A0);
            } else {
                value(told);
            }
            sw(A0, s(second), FP);
        }
        e(n.part(1));
        if (!n.sign.isEmpty()) {
            op(n.sign, second);
        }
        if (told.isRow) {
            lw(T1, s(first), FP);
            sw(A0, 0, T1);
        } else if (told.isGlobal) {
            lui(T1, told.address);
            sw(A0, lo(told.address), T1);
        } else {
            sw(A0, s(told.slot), FP);
        }
    }
}
