import java.util.ArrayList;
import java.util.List;

/** Terms 3 and promise 21 done a second time: a memory of bytes, and words taken apart field by field. */
final class SecondMachine {
    private static final String[] BRANCHES = {"beq", "bne", null, null, "blt", "bge", "bltu", "bgeu"};
    private static final String[] LOADS = {"lb", "lh", "lw", null, "lbu", "lhu", null, null};
    private static final String[] STORES = {"sb", "sh", "sw", null, null, null, null, null};
    private static final String[] NUMBERED = {"addi", "slli", "slti", "sltiu", "xori", "srli", "ori", "andi"};
    private static final String[] PLAIN = {"add", "sll", "slt", "sltu", "xor", "srl", "or", "and"};

    final byte[] memory;
    final int[] x = new int[32];
    int pc;
    int status;
    int steps;
    final List<Integer> puts = new ArrayList<>();
    final List<Integer> given;
    int used;
    private long word;

    SecondMachine(int words, List<Integer> given) {
        memory = new byte[4 * words];
        this.given = given;
    }

    boolean reaches(int address, int bytes) {
        long from = address & 0xFFFFFFFFL;
        return from % bytes == 0 && from + bytes <= memory.length;
    }

    int load(int address, int bytes) {
        int v = 0;
        for (int k = bytes - 1; k >= 0; k--) {
            v = v << 8 | memory[address + k] & 255;
        }
        return v;
    }

    void store(int address, int v, int bytes) {
        for (int k = 0; k < bytes; k++) {
            memory[address + k] = (byte) (v >> 8 * k);
        }
    }

    /** The bits of the word, from one down to another. */
    private int field(int high, int low) {
        return (int) (word >> low & (1L << high - low + 1) - 1);
    }

    private static int signed(int v, int bits) {
        return v << 32 - bits >> 32 - bits;
    }

    private int rd() {
        return field(11, 7);
    }

    private int rs1() {
        return field(19, 15);
    }

    private int rs2() {
        return field(24, 20);
    }

    private int numberI() {
        return signed(field(31, 20), 12);
    }

    private int numberS() {
        return signed(field(31, 25) << 5 | field(11, 7), 12);
    }

    private int numberB() {
        return signed(field(31, 31) << 12 | field(7, 7) << 11 | field(30, 25) << 5 | field(11, 8) << 1, 13);
    }

    private int numberJ() {
        return signed(field(31, 31) << 20 | field(19, 12) << 12 | field(20, 20) << 11 | field(30, 21) << 1, 21);
    }

    /** The name of the word; null: it is ILLEGAL. */
    private String name() {
        int f3 = field(14, 12);
        int f7 = field(31, 25);
        switch (field(6, 0)) {
            case 0b0110111: return "lui";
            case 0b0010111: return "auipc";
            case 0b1101111: return "jal";
            case 0b1100111: return f3 == 0 ? "jalr" : null;
            case 0b1100011: return BRANCHES[f3];
            case 0b0000011: return LOADS[f3];
            case 0b0100011: return STORES[f3];
            case 0b0010011:
                if (f3 == 5 && f7 == 0b0100000) {
                    return "srai";
                }
                return (f3 == 1 || f3 == 5) && f7 != 0 ? null : NUMBERED[f3];
            case 0b0110011:
                if (f7 == 0b0100000) {
                    return f3 == 0 ? "sub" : f3 == 5 ? "sra" : null;
                }
                return f7 == 0 ? PLAIN[f3] : null;
            case 0b0001111: return f3 == 0 ? "fence" : null;
            default: return word == 0x73 ? "ecall" : word == 0x100073 ? "ebreak" : null;
        }
    }

    String show(int v) {
        word = v & 0xFFFFFFFFL;
        String name = name();
        if (name == null) {
            return String.format("word 0x%08x", v);
        }
        switch (name) {
            case "lui":
            case "auipc":
                return String.format("%s x%d, %d", name, rd(), field(31, 12));
            case "jal":
                return String.format("jal x%d, %d", rd(), numberJ());
            case "jalr":
            case "lb":
            case "lh":
            case "lw":
            case "lbu":
            case "lhu":
                return String.format("%s x%d, %d(x%d)", name, rd(), numberI(), rs1());
            case "sb":
            case "sh":
            case "sw":
                return String.format("%s x%d, %d(x%d)", name, rs2(), numberS(), rs1());
            case "slli":
            case "srli":
            case "srai":
                return String.format("%s x%d, x%d, %d", name, rd(), rs1(), rs2());
            case "fence":
            case "ecall":
            case "ebreak":
                return name;
            default:
                return showOther(name);
        }
    }

    private String showOther(String name) {
        if (name.startsWith("b")) {
            return String.format("%s x%d, x%d, %d", name, rs1(), rs2(), numberB());
        }
        if (field(6, 0) == 0b0010011) {
            return String.format("%s x%d, x%d, %d", name, rd(), rs1(), numberI());
        }
        return String.format("%s x%d, x%d, x%d", name, rd(), rs1(), rs2());
    }

    void step() {
        if (status != 0) {
            return;
        }
        steps++;
        if (!reaches(pc, 4)) {
            status = 3;
            return;
        }
        word = load(pc, 4) & 0xFFFFFFFFL;
        String name = name();
        if (name == null) {
            status = 2;
        } else {
            doWord(name);
        }
    }

    private void doWord(String name) {
        int a = x[rs1()];
        int b = x[rs2()];
        switch (name) {
            case "lui": goOn(field(31, 12) * 4096); break;
            case "auipc": goOn(pc + field(31, 12) * 4096); break;
            case "jal": jump(pc + numberJ(), true); break;
            case "jalr": jump((a + numberI()) & -2, true); break;
            case "ecall": ecall(); break;
            case "ebreak": status = 1; break;
            case "fence": pc += 4; break;
            default:
                if (field(6, 0) == 0b1100011) {
                    branch(name, a, b);
                } else if (field(6, 0) == 0b0000011) {
                    doLoad(name, a + numberI());
                } else if (field(6, 0) == 0b0100011) {
                    doStore(name, b, a + numberS());
                } else if (field(6, 0) == 0b0010011) {
                    boolean isShift = name.equals("slli") || name.equals("srli") || name.equals("srai");
                    // The like of add has the same name, but for the i: it is at the end, or ahead of the u.
                    goOn(joined(name.replaceFirst("i(u?)$", "$1"), a, isShift ? rs2() : numberI()));
                } else {
                    goOn(joined(name, a, b));
                }
                break;
        }
    }

    private void goOn(int v) {
        x[rd()] = rd() == 0 ? 0 : v;
        pc += 4;
    }

    private void jump(int where, boolean links) {
        if (where % 4 != 0) {
            status = 3;
            return;
        }
        if (links && rd() != 0) {
            x[rd()] = pc + 4;
        }
        pc = where;
    }

    private static boolean isBelow(int a, int b) {
        return (a & 0xFFFFFFFFL) < (b & 0xFFFFFFFFL);
    }

    private void branch(String name, int a, int b) {
        boolean isTaken;
        switch (name) {
            case "beq": isTaken = a == b; break;
            case "bne": isTaken = a != b; break;
            case "blt": isTaken = a < b; break;
            case "bge": isTaken = a >= b; break;
            case "bltu": isTaken = isBelow(a, b); break;
            default: isTaken = !isBelow(a, b); break;
        }
        if (isTaken) {
            jump(pc + numberB(), false);
        } else {
            pc += 4;
        }
    }

    private static int bytesOf(String name) {
        switch (name.charAt(1)) {
            case 'b': return 1;
            case 'h': return 2;
            default: return 4;
        }
    }

    private void doLoad(String name, int address) {
        if (!reaches(address, bytesOf(name))) {
            status = 3;
            return;
        }
        int v = load(address, bytesOf(name));
        goOn(name.endsWith("u") ? v : signed(v, 8 * bytesOf(name)));
    }

    private void doStore(String name, int v, int address) {
        if (!reaches(address, bytesOf(name))) {
            status = 3;
            return;
        }
        store(address, v, bytesOf(name));
        pc += 4;
    }

    private static int joined(String name, int a, int b) {
        switch (name) {
            case "add": return a + b;
            case "sub": return a - b;
            case "sll": return (int) ((long) a << (b & 31));
            case "slt": return a < b ? 1 : 0;
            case "sltu": return isBelow(a, b) ? 1 : 0;
            case "xor": return a ^ b;
            case "srl": return (int) ((a & 0xFFFFFFFFL) >> (b & 31));
            case "sra": return (int) ((long) a >> (b & 31));
            case "or": return a | b;
            case "and": return a & b;
            default: throw new IllegalStateException(name);
        }
    }

    private void ecall() {
        if (x[17] == 1) {
            puts.add(x[10]);
        } else if (x[17] == 2) {
            x[10] = used < given.size() ? given.get(used++) : 0;
        }
        pc += 4;
    }
}
