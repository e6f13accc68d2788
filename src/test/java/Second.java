import java.util.ArrayDeque;
import java.util.ArrayList;
import java.util.Arrays;
import java.util.Deque;
import java.util.List;
import java.util.regex.Matcher;
import java.util.regex.Pattern;

/**
 * Terms 1 done a second time, from the document alone and by other means than the class: a text becomes a tree. The
 * faults are noted wherever they are seen; the one with the least place, and there the least number, is told.
 */
final class Second {
    static final List<String> SETS = List.of("=", "+=", "-=", "*=", "/=", "%=", "&=", "|=", "^=", "<<=", ">>=");
    static final List<List<String>> STRENGTHS = List.of(List.of("||"), List.of("&&"), List.of("|"), List.of("^"),
        List.of("&"), List.of("==", "!="), List.of("<", "<=", ">", ">="), List.of("<<", ">>"), List.of("+", "-"),
        List.of("*", "/", "%"));
    private static final List<String> KEYWORDS =
        List.of("int", "if", "else", "while", "do", "for", "break", "continue", "return", "put", "get");
    private static final Pattern BLANKS = Pattern.compile("(?:[\\t\\n\\r ]|//[^\\n]*)*+");
    private static final Pattern NAME = Pattern.compile("[A-Za-z_][A-Za-z_0-9]*+");
    private static final Pattern NUMBER = Pattern.compile("[0-9][A-Za-z_0-9]*+");
    private static final Pattern CHARACTER = Pattern.compile("'[ -&(-~]'");
    private static final Pattern SIGN =
        Pattern.compile("<<=|>>=|[-+*/%&|^=!<>]=|<<|>>|\\|\\||&&|[-(){}\\[\\];,?:=|^&<>+*/%!~]");

    /** The reading can't go on; its fault is noted. */
    private static final class Stop extends RuntimeException {
        private static final long serialVersionUID = 1;
    }

    /** A sign and a keyword are their own sort; the others: name, number, character, none, end. */
    private record Token(String sort, String text, int place, int index) {
    }

    /** A parameter, a local or a global. */
    static final class Told {
        final String name;
        final int place;
        final boolean isGlobal;
        boolean isRow;
        int size = 1;
        int slot;
        int address;

        Told(String name, int place, boolean isGlobal) {
            this.name = name;
            this.place = place;
            this.isGlobal = isGlobal;
        }
    }

    static final class Function {
        final String name;
        final int place;
        final List<Told> parameters = new ArrayList<>();
        int slots;
        int address;
        Node body;

        Function(String name, int place) {
            this.name = name;
            this.place = place;
        }

        int frame() {
            return 8 + 4 * slots;
        }
    }

    /** A part of the tree. */
    static final class Node {
        final String sort;
        final List<Node> parts;
        String sign = "";
        int number;
        int slot;
        Told told;

        Node(String sort, Node... parts) {
            this.sort = sort;
            this.parts = new ArrayList<>(Arrays.asList(parts));
        }

        Node part(int k) {
            return parts.get(k);
        }
    }

    private record Call(String name, int place, int count) {
    }

    final String text;
    final int memory;
    int fault;
    int place = -1;
    final List<Function> functions = new ArrayList<>();
    final List<Told> globals = new ArrayList<>();
    int[] code;
    int limit;

    private final List<Token> tokens = new ArrayList<>();
    private int at;
    private int opened;
    private int loops;
    private final Deque<List<Told>> blocks = new ArrayDeque<>();
    private int putBy;
    private Function function;
    private final List<Call> calls = new ArrayList<>();

    Second(String text, int words) {
        this.text = text;
        memory = 4 * words;
        try {
            while (!is("end")) {
                item();
            }
        } catch (Stop stop) {
            // The fault is noted.
        }
        if (fault == 0) {
            calls.forEach(this::noteCall);
        }
        if (fault == 0) {
            SecondCode.layInto(this);
        }
        if (fault == 0 && limit + 64 > memory) {
            note(7, text.length());
        }
    }

    private void noteCall(Call call) {
        Function called = named(call.name);
        if (called == null) {
            note(3, call.place);
        } else if (called.parameters.size() != call.count) {
            note(4, call.place);
        }
    }

    Function named(String name) {
        return functions.stream().filter(f -> f.name.equals(name)).findAny().orElse(null);
    }

    private void note(int number, int where) {
        if (fault == 0 || where < place || where == place && number < fault) {
            fault = number;
            place = where;
        }
    }

    // Tokens.

    private Token peek(int ahead) {
        while (tokens.size() <= at + ahead) {
            Token last = tokens.isEmpty() ? new Token("", "", 0, 0) : tokens.get(tokens.size() - 1);
            if (last.sort.equals("end") || last.sort.equals("none")) {
                return last;
            }
            tokens.add(scan(last.place + last.text.length()));
        }
        return tokens.get(at + ahead);
    }

    private Token scan(int from) {
        int begin = from + match(BLANKS, from).length();
        if (begin == text.length()) {
            return token("end", "", begin);
        }
        String name = match(NAME, begin);
        if (!name.isEmpty()) {
            return token(KEYWORDS.contains(name) ? name : name.length() <= 16 ? "name" : "none", name, begin);
        }
        String number = match(NUMBER, begin);
        if (!number.isEmpty()) {
            return token(number.matches("[0-9]{1,10}|0x[0-9a-fA-F]{1,8}") ? "number" : "none", number, begin);
        }
        String character = match(CHARACTER, begin);
        if (!character.isEmpty()) {
            return token("character", character, begin);
        }
        String sign = match(SIGN, begin);
        return token(sign.isEmpty() ? "none" : sign, sign, begin);
    }

    private Token token(String sort, String spelled, int where) {
        return new Token(sort, spelled, where, tokens.size());
    }

    private String match(Pattern pattern, int from) {
        Matcher matcher = pattern.matcher(text).region(from, text.length());
        return matcher.lookingAt() ? matcher.group() : "";
    }

    private boolean is(String sort) {
        return peek(0).sort.equals(sort);
    }

    private void stop(int number, Token token) {
        note(number, token.place);
        throw new Stop();
    }

    private Token take(String sort) {
        Token token = peek(0);
        if (token.sort.equals("none")) {
            stop(1, token);
        }
        if (!token.sort.equals(sort)) {
            stop(2, token);
        }
        if (token.index >= 1500) {
            stop(5, token);
        }
        at++;
        return token;
    }

    private Token open(String sort) {
        Token token = take(sort);
        opened++;
        if (opened > 40) {
            stop(5, token);
        }
        return token;
    }

    private void close() {
        opened--;
    }

    // Names and slots.

    private int known() {
        return blocks.stream().mapToInt(List::size).sum();
    }

    private int nextSlot() {
        return known() + putBy;
    }

    private void want(int count, int where) {
        function.slots = Math.max(function.slots, nextSlot() + count);
        if (nextSlot() + count > 500) {
            note(5, where);
        }
    }

    private static Told in(List<Told> list, String name) {
        return list.stream().filter(told -> told.name.equals(name)).findAny().orElse(null);
    }

    /** What a NAME means: the innermost block is the first one. */
    private Told meant(String name) {
        for (List<Told> block : blocks) {
            if (in(block, name) != null) {
                return in(block, name);
            }
        }
        return in(globals, name);
    }

    // Items.

    private void item() {
        take("int");
        Token name = peek(0);
        if (is("name")) {
            noteItem(name, peek(1).sort);
        }
        take("name");
        if (is("(")) {
            functionItem(name);
        } else {
            globalItem(name);
        }
    }

    private void noteItem(Token name, String behind) {
        if (in(globals, name.text) != null || named(name.text) != null) {
            note(3, name.place);
        }
        boolean isGlobal = behind.equals("[") || behind.equals(";");
        if (behind.equals("(") && functions.size() == 40 || isGlobal && globals.size() == 60) {
            note(5, name.place);
        }
    }

    private void globalItem(Token name) {
        Told global = new Told(name.text, name.place, true);
        if (is("[")) {
            open("[");
            Token size = take("number");
            if (number(size) < 1 || number(size) > 1000) {
                note(5, size.place);
            }
            global.isRow = true;
            global.size = (int) number(size);
            take("]");
            close();
        }
        take(";");
        globals.add(global);
    }

    private static boolean isHex(Token token) {
        return token.text.startsWith("0x");
    }

    private static long number(Token token) {
        return isHex(token) ? Long.parseLong(token.text.substring(2), 16) : Long.parseLong(token.text);
    }

    private void functionItem(Token name) {
        function = new Function(name.text, name.place);
        functions.add(function);
        blocks.clear();
        blocks.push(new ArrayList<>());
        open("(");
        if (!is(")")) {
            parameter();
            while (is(",")) {
                take(",");
                parameter();
            }
        }
        take(")");
        close();
        function.parameters.addAll(blocks.peek());
        function.body = block();
    }

    private void parameter() {
        take("int");
        if (is("name") && blocks.peek().size() == 8) {
            note(5, peek(0).place);
        }
        blocks.peek().add(newName());
    }

    private Told newName() {
        Token name = peek(0);
        if (is("name")) {
            if (in(blocks.peek(), name.text) != null) {
                note(3, name.place);
            }
            want(1, name.place);
        }
        take("name");
        Told told = new Told(name.text, name.place, false);
        told.slot = known();
        return told;
    }

    // Stats.

    private Node block() {
        Node block = new Node("block");
        open("{");
        while (!is("}")) {
            block.parts.add(stat());
        }
        take("}");
        close();
        return block;
    }

    private Node stat() {
        switch (peek(0).sort) {
            case "{":
                return inBlockOfItsOwn();
            case "int":
                return local();
            case "if":
                return ifStat();
            case "while":
                return whileStat();
            case "do":
                return doStat();
            case "for":
                return forStat();
            case "break":
            case "continue":
                return jumpStat();
            case "return":
                take("return");
                return behind(is(";") ? new Node("return") : new Node("return", e()));
            case "put":
                take("put");
                return behind(new Node("put", inRound()));
            case ";":
                return behind(new Node("block"));
            default:
                return behind(new Node("e", e()));
        }
    }

    /** The stat has a ; behind it. */
    private Node behind(Node stat) {
        take(";");
        return stat;
    }

    private Node inBlockOfItsOwn() {
        blocks.push(new ArrayList<>());
        Node node = is("{") ? block() : stat();
        blocks.pop();
        return node;
    }

    /** The stat of an if, else or loop. */
    private Node inner() {
        return is("int") ? inBlockOfItsOwn() : stat();
    }

    private Node local() {
        take("int");
        Node stat = new Node("int");
        stat.told = newName();
        if (is("=")) {
            take("=");
            stat.parts.add(e());
        }
        take(";");
        blocks.peek().add(stat.told);
        return stat;
    }

    private Node jumpStat() {
        Token jump = take(peek(0).sort);
        if (loops == 0) {
            note(6, jump.place);
        }
        return behind(new Node(jump.sort));
    }

    private Node inRound() {
        open("(");
        Node e = e();
        take(")");
        close();
        return e;
    }

    private Node ifStat() {
        open("if");
        Node stat = new Node("if", inRound(), inner());
        if (is("else")) {
            take("else");
            stat.parts.add(inner());
        }
        close();
        return stat;
    }

    private Node round() {
        loops++;
        Node stat = inner();
        loops--;
        return stat;
    }

    private Node whileStat() {
        open("while");
        Node stat = new Node("while", inRound(), round());
        close();
        return stat;
    }

    private Node doStat() {
        open("do");
        Node round = round();
        take("while");
        Node stat = behind(new Node("do", inRound(), round));
        close();
        return stat;
    }

    /** Where an E can be left out. */
    private Node eUnless(String end) {
        Node e = is(end) ? null : e();
        take(end);
        return e;
    }

    private Node forStat() {
        open("for");
        open("(");
        Node first = eUnless(";");
        Node condition = eUnless(";");
        Node third = eUnless(")");
        close();
        Node stat = new Node("for", condition, round(), first, third);
        close();
        return stat;
    }

    // E's.

    private Node e() {
        Node left = c();
        boolean isRow = left.sort.equals("row");
        if (!isRow && !left.sort.equals("name") || !SETS.contains(peek(0).sort)) {
            return left;
        }
        Token set = open(peek(0).sort);
        int wanted = (isRow ? 1 : 0) + (set.sort.equals("=") ? 0 : 1);
        Node node = new Node("set", left);
        node.sign = set.sort.substring(0, set.sort.length() - 1);
        node.slot = nextSlot();
        want(wanted, set.place);
        putBy += wanted;
        node.parts.add(e());
        putBy -= wanted;
        close();
        return node;
    }

    private Node c() {
        Node left = b(0);
        if (!is("?")) {
            return left;
        }
        open("?");
        Node node = new Node("?", left, e());
        take(":");
        node.parts.add(c());
        close();
        return node;
    }

    private Node b(int strength) {
        if (strength == STRENGTHS.size()) {
            return operand();
        }
        Node left = b(strength + 1);
        while (STRENGTHS.get(strength).contains(peek(0).sort)) {
            Token sign = take(peek(0).sort);
            // && and || put nothing by.
            int wanted = strength < 2 ? 0 : 1;
            Node node = new Node("two", left);
            node.sign = sign.sort;
            node.slot = nextSlot();
            want(wanted, sign.place);
            putBy += wanted;
            node.parts.add(b(strength + 1));
            putBy -= wanted;
            left = node;
        }
        return left;
    }

    private Node operand() {
        switch (peek(0).sort) {
            case "-":
            case "!":
            case "~":
                return unary();
            case "number":
                return number();
            case "character":
                return constant(take("character").text.charAt(1));
            case "get":
                take("get");
                open("(");
                take(")");
                close();
                return new Node("get");
            case "(":
                return new Node("round", inRound());
            case "name":
                return peek(1).sort.equals("(") ? call() : place();
            default:
                take("an operand");
                return null;
        }
    }

    private Node unary() {
        String sign = open(peek(0).sort).sort;
        Node node = new Node("one", operand());
        node.sign = sign;
        close();
        return node;
    }

    private Node number() {
        Token token = take("number");
        if (!isHex(token) && number(token) > 2147483647L) {
            note(5, token.place);
        }
        return constant((int) number(token));
    }

    private static Node constant(int number) {
        Node node = new Node("number");
        node.number = number;
        return node;
    }

    private Node place() {
        Token name = peek(0);
        boolean isRow = peek(1).sort.equals("[");
        Node node = new Node(isRow ? "row" : "name");
        node.told = meant(name.text);
        if (node.told == null || node.told.isRow != isRow) {
            note(3, name.place);
        }
        take("name");
        if (isRow) {
            open("[");
            node.parts.add(e());
            take("]");
            close();
        }
        return node;
    }

    private Node call() {
        Token name = peek(0);
        if (meant(name.text) != null) {
            note(3, name.place);
        }
        take("name");
        Node node = new Node("call");
        node.sign = name.text;
        node.slot = nextSlot();
        open("(");
        if (!is(")")) {
            argument(node);
            while (is(",")) {
                take(",");
                argument(node);
            }
        }
        take(")");
        close();
        putBy -= node.parts.size();
        calls.add(new Call(name.text, name.place, node.parts.size()));
        return node;
    }

    private void argument(Node call) {
        want(1, peek(0).place);
        if (call.parts.size() == 8) {
            note(5, peek(0).place);
        }
        call.parts.add(e());
        putBy++;
    }
}
