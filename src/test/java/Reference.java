import java.util.ArrayList;
import java.util.HashMap;
import java.util.List;
import java.util.Map;
import java.util.NoSuchElementException;

/**
 * The document once more, by other means: a recursive reader and plain trial of all INPUTS. It is
 * slow and simple on purpose, so that the two can be held against each other.
 */
final class Reference {
    /** A fault found while reading. */
    private static final class Fault extends RuntimeException {
        final int kind;
        final int where;

        Fault(int kind, int where) {
            this.kind = kind;
            this.where = where;
        }
    }

    private static final class Token {
        final String text;
        final int at;
        final boolean bad;

        Token(String text, int at, boolean bad) {
            this.text = text;
            this.at = at;
            this.bad = bad;
        }

        boolean is(String s) {
            return !bad && text.equals(s);
        }

        boolean number() {
            return !bad && !text.isEmpty() && Character.isDigit(text.charAt(0));
        }

        boolean name() {
            return !bad && !text.isEmpty() && Character.isLetter(text.charAt(0)) && !WORDS.contains(text);
        }
    }

    private static final List<String> WORDS = List.of("input", "var", "if", "else", "while", "assert", "assume");
    private static final List<String> DOUBLES = List.of("==", "!=", "<=", ">=", "<<", ">>", "&&", "||");
    private static final String[][] LEVELS = {
        {"||"}, {"&&"}, {"|"}, {"^"}, {"&"}, {"==", "!="}, {"<", "<=", ">", ">="}, {"<<", ">>"}, {"+", "-"}, {"*", "/", "%"}};

    private static final class Node {
        final String op;
        final Node[] parts;
        int number;
        int width;
        int work;

        Node(String op, Node... parts) {
            this.op = op;
            this.parts = parts;
        }
    }

    private static final class Statement {
        String kind;
        int number;
        Node test;
        List<Statement> inner = new ArrayList<>();
        long work;
    }

    /** What a program is once it has been read. */
    private static final class Code {
        final List<Integer> inputs = new ArrayList<>();
        final List<Integer> variables = new ArrayList<>();
        final Map<String, Integer> inputNames = new HashMap<>();
        final Map<String, Integer> variableNames = new HashMap<>();
        final List<Statement> body = new ArrayList<>();
        int assertions;
        long work;
    }

    private static final class Stop extends RuntimeException {
        final int outcome;
        final int at;

        Stop(int outcome, int at) {
            super(null, null, false, false);
            this.outcome = outcome;
            this.at = at;
        }
    }

    // ---- the object's state
    private byte[] text = new byte[0];
    private Code code;
    private int fault = 0;
    private int where = -1;
    private int[] inputs = new int[0];
    private int[] left;
    private int failedAt = -1;
    private int witness = -1;

    // ---- reading
    private List<Token> tokens;
    private int next;
    private Code reading;
    private Fault first;

    int feed(int a, int b, int c, int d, int e) {
        if (text.length + 20 > 4096) {
            throw new IndexOutOfBoundsException();
        }
        byte[] more = java.util.Arrays.copyOf(text, text.length + 20);
        int[] all = {a, b, c, d, e};
        for (int i = 0; i < 20; i++) {
            more[text.length + i] = (byte) (all[i / 4] >> 24 - 8 * (i % 4));
        }
        text = more;
        return text.length;
    }

    /** The text at once, without the calls for it. */
    void feedAll(String all) {
        text = Hall.bytes(all);
    }

    int end(int n) {
        if (n < 0 || n > text.length) {
            throw new IllegalArgumentException();
        }
        text = java.util.Arrays.copyOf(text, text.length - n);
        return text.length;
    }

    int build() {
        byte[] was = text;
        text = new byte[0];
        try {
            code = read(was);
        } catch (Fault f) {
            fault = f.kind;
            where = f.where;
            throw new IllegalStateException();
        }
        inputs = new int[code.inputs.size()];
        left = null;
        failedAt = -1;
        witness = -1;
        return code.assertions;
    }

    private void cut(byte[] bytes) {
        tokens = new ArrayList<>();
        int i = 0;
        while (i < bytes.length) {
            int c = bytes[i];
            if (c == 32 || c == 10) {
                i++;
                continue;
            }
            int j = i;
            boolean bad = false;
            if (c >= 'a' && c <= 'z') {
                while (j < bytes.length && bytes[j] >= 'a' && bytes[j] <= 'z') {
                    j++;
                }
                bad = j - i > 8;
            } else if (c >= '0' && c <= '9') {
                while (j < bytes.length && bytes[j] >= '0' && bytes[j] <= '9') {
                    j++;
                }
                bad = new java.math.BigInteger(new String(bytes, i, j - i)).intValue() > 255
                    || new java.math.BigInteger(new String(bytes, i, j - i)).bitLength() > 8;
            } else if (i + 1 < bytes.length && DOUBLES.contains("" + (char) c + (char) bytes[i + 1])) {
                j = i + 2;
            } else {
                j = i + 1;
                bad = c <= 0 || ";:(){}=?!~+-*/%&|^<>".indexOf(c) < 0;
            }
            tokens.add(new Token(bad ? "" : new String(bytes, i, j - i), i, bad));
            i = j;
        }
        tokens.add(new Token("", bytes.length, false));
    }

    private Token look() {
        return tokens.get(next);
    }

    private Token take(int depth) {
        Token t = look();
        if (t.bad || depth > 30 || t.text.isEmpty()) {
            throw new Fault(1, t.at);
        }
        next++;
        return t;
    }

    private void must(String s, int depth) {
        if (!look().is(s)) {
            throw new Fault(1, look().at);
        }
        take(depth);
    }

    private void note(int kind, int at) {
        if (first == null || at < first.where) {
            first = new Fault(kind, at);
        }
    }

    private Code read(byte[] bytes) {
        cut(bytes);
        next = 0;
        first = null;
        reading = new Code();
        while (look().is("input") || look().is("var")) {
            declaration();
        }
        while (!look().text.isEmpty() || look().bad) {
            Statement s = statement(0);
            reading.body.add(s);
            reading.work = Math.min(1_000_000, reading.work + s.work);
        }
        if (first != null) {
            throw first;
        }
        if (reading.work > 1500) {
            throw new Fault(7, bytes.length);
        }
        return reading;
    }

    private void declaration() {
        boolean input = take(0).text.equals("input");
        Token name = look();
        if (!name.name()) {
            throw new Fault(1, name.at);
        }
        take(0);
        must(":", 0);
        Token width = look();
        if (!width.number()) {
            throw new Fault(1, width.at);
        }
        take(0);
        must(";", 0);
        int w = Integer.parseInt(width.text);
        if (reading.inputNames.containsKey(name.text) || reading.variableNames.containsKey(name.text)) {
            note(3, name.at);
        } else if (w < 1 || w > 8) {
            note(5, width.at);
        } else if (input) {
            int bits = w;
            for (int other : reading.inputs) {
                bits += other;
            }
            if (bits > 12) {
                note(6, name.at);
            }
            reading.inputNames.put(name.text, reading.inputs.size());
            reading.inputs.add(w);
        } else {
            if (reading.variables.size() == 12) {
                note(6, name.at);
            }
            reading.variableNames.put(name.text, reading.variables.size());
            reading.variables.add(w);
        }
    }

    private Statement statement(int depth) {
        Token t = look();
        Statement s = new Statement();
        if (depth > 30 || t.bad) {
            throw new Fault(1, t.at);
        }
        if (t.name()) {
            s.kind = "set";
            Integer v = reading.variableNames.get(t.text);
            if (reading.inputNames.containsKey(t.text)) {
                note(4, t.at);
            } else if (v == null) {
                note(2, t.at);
            }
            s.number = v == null ? 0 : v;
            take(depth);
            must("=", depth);
            s.test = expr(depth);
            must(";", depth);
            s.work = s.test.work + 8;
        } else if (t.is("assert") || t.is("assume")) {
            s.kind = take(depth).text;
            if (s.kind.equals("assert")) {
                s.number = reading.assertions++;
            }
            s.test = expr(depth);
            must(";", depth);
            s.work = s.test.work + 8;
        } else if (t.is("if")) {
            s.kind = take(depth).text;
            must("(", depth);
            s.test = expr(depth + 1);
            must(")", depth);
            s.inner.add(statement(depth + 1));
            if (look().is("else")) {
                take(depth);
                s.inner.add(statement(depth + 1));
            }
            s.work = s.test.work + 8L * reading.variables.size();
            for (Statement i : s.inner) {
                s.work += i.work;
            }
        } else if (t.is("while")) {
            s.kind = take(depth).text;
            Token n = look();
            if (!n.number()) {
                throw new Fault(1, n.at);
            }
            s.number = Integer.parseInt(take(depth).text);
            if (s.number > 8) {
                note(5, n.at);
            }
            must("(", depth);
            s.test = expr(depth + 1);
            must(")", depth);
            s.inner.add(statement(depth + 1));
            s.work = s.number * (s.test.work + s.inner.get(0).work + 8L * reading.variables.size()) + s.test.work;
        } else if (t.is("{")) {
            s.kind = take(depth).text;
            while (!look().is("}")) {
                Statement i = statement(depth + 1);
                s.inner.add(i);
                s.work = Math.min(1_000_000, s.work + i.work);
            }
            next++;
        } else {
            throw new Fault(1, t.at);
        }
        s.work = Math.min(1_000_000, s.work);
        return s;
    }

    private Node expr(int depth) {
        Node n = level(0, depth);
        if (look().is("?")) {
            take(depth);
            Node yes = expr(depth + 1);
            must(":", depth);
            Node no = expr(depth + 1);
            return finish(new Node("?", n, yes, no));
        }
        return n;
    }

    private Node level(int strength, int depth) {
        if (strength == LEVELS.length) {
            return prefix(depth);
        }
        Node n = level(strength + 1, depth);
        while (true) {
            String op = null;
            for (String s : LEVELS[strength]) {
                if (look().is(s)) {
                    op = s;
                }
            }
            if (op == null) {
                return n;
            }
            take(depth);
            n = finish(new Node(op, n, level(strength + 1, depth)));
        }
    }

    private Node prefix(int depth) {
        Token t = look();
        if (depth > 30) {
            throw new Fault(1, t.at);
        }
        if (t.is("!") || t.is("~") || t.is("-")) {
            take(depth);
            return finish(new Node(t.text + "x", prefix(depth + 1)));
        }
        if (t.is("(")) {
            take(depth);
            Node n = expr(depth + 1);
            must(")", depth);
            return n;
        }
        if (t.number()) {
            take(depth);
            Node n = new Node("number");
            n.number = Integer.parseInt(t.text);
            n.width = Math.max(1, Integer.toBinaryString(n.number).length());
            return n;
        }
        if (!t.name()) {
            throw new Fault(1, t.at);
        }
        take(depth);
        Node n = new Node(reading.inputNames.containsKey(t.text) ? "input" : "variable");
        n.width = 1;
        if (reading.inputNames.containsKey(t.text)) {
            n.number = reading.inputNames.get(t.text);
            n.width = reading.inputs.get(n.number);
        } else if (reading.variableNames.containsKey(t.text)) {
            n.number = reading.variableNames.get(t.text);
            n.width = reading.variables.get(n.number);
        } else {
            note(2, t.at);
        }
        return n;
    }

    private static Node finish(Node n) {
        int widest = 0;
        for (Node p : n.parts) {
            n.work += p.work;
            widest = Math.max(widest, p.width);
        }
        switch (n.op) {
            case "||": case "&&": case "==": case "!=": case "<": case "<=": case ">": case ">=": case "!x":
                n.width = 1;
                break;
            case "<<": case ">>":
                n.width = n.parts[0].width;
                break;
            case "?":
                n.width = Math.max(n.parts[1].width, n.parts[2].width);
                break;
            default:
                n.width = widest;
        }
        int w = Math.max(widest, n.width);
        n.work += "*/%".contains(n.op) ? w * w : n.op.equals("<<") || n.op.equals(">>") ? 4 * w : w;
        n.work = Math.min(n.work, 1_000_000);
        return n;
    }

    // ---- running
    private int worth(Node n, int[] in, int[] vars) {
        // A long chain leans to the left; it is walked down without recursion.
        List<Node> chain = new ArrayList<>();
        Node low = n;
        while (low.parts.length == 2) {
            chain.add(low);
            low = low.parts[0];
        }
        int x = leafWorth(low, in, vars);
        for (int i = chain.size() - 1; i >= 0; i--) {
            Node c = chain.get(i);
            x = both(c, x, worth(c.parts[1], in, vars));
        }
        return x;
    }

    private int leafWorth(Node n, int[] in, int[] vars) {
        int mask = (1 << n.width) - 1;
        switch (n.op) {
            case "number":
                return n.number;
            case "input":
                return in[n.number];
            case "variable":
                return vars[n.number];
            case "!x":
                return worth(n.parts[0], in, vars) == 0 ? 1 : 0;
            case "~x":
                return ~worth(n.parts[0], in, vars) & mask;
            case "-x":
                return -worth(n.parts[0], in, vars) & mask;
            default:
                return worth(n.parts[worth(n.parts[0], in, vars) != 0 ? 1 : 2], in, vars);
        }
    }

    private static int both(Node n, int a, int b) {
        int mask = (1 << n.width) - 1;
        boolean truth;
        switch (n.op) {
            case "+": return a + b & mask;
            case "-": return a - b & mask;
            case "*": return a * b & mask;
            case "&": return a & b;
            case "|": return a | b;
            case "^": return a ^ b;
            case "/": return b == 0 ? mask : a / b;
            case "%": return b == 0 ? a : a % b;
            case "<<": return b >= n.width ? 0 : a << b & mask;
            case ">>": return b >= n.width ? 0 : a >> b;
            case "==": truth = a == b; break;
            case "!=": truth = a != b; break;
            case "<": truth = a < b; break;
            case "<=": truth = a <= b; break;
            case ">": truth = a > b; break;
            case ">=": truth = a >= b; break;
            case "&&": truth = a != 0 && b != 0; break;
            default: truth = a != 0 || b != 0;
        }
        return truth ? 1 : 0;
    }

    private void perform(Statement s, int[] in, int[] vars) {
        switch (s.kind) {
            case "set":
                vars[s.number] = worth(s.test, in, vars) & (1 << code.variables.get(s.number)) - 1;
                break;
            case "assert":
                if (worth(s.test, in, vars) == 0) {
                    throw new Stop(1, s.number);
                }
                break;
            case "assume":
                if (worth(s.test, in, vars) == 0) {
                    throw new Stop(2, -1);
                }
                break;
            case "if":
                if (worth(s.test, in, vars) != 0) {
                    perform(s.inner.get(0), in, vars);
                } else if (s.inner.size() > 1) {
                    perform(s.inner.get(1), in, vars);
                }
                break;
            case "while":
                for (int n = 0; worth(s.test, in, vars) != 0; n++) {
                    if (n == s.number) {
                        throw new Stop(2, -1);
                    }
                    perform(s.inner.get(0), in, vars);
                }
                break;
            default:
                for (Statement i : s.inner) {
                    perform(i, in, vars);
                }
        }
    }

    private int attempt(int[] in, int[] vars) {
        stoppedAt = -1;
        try {
            for (Statement s : code.body) {
                perform(s, in, vars);
            }
        } catch (Stop stop) {
            stoppedAt = stop.at;
            return stop.outcome;
        }
        return 0;
    }

    private int stoppedAt;

    private int bits() {
        int bits = 0;
        for (int w : code.inputs) {
            bits += w;
        }
        return bits;
    }

    private int[] split(int number) {
        int[] in = new int[code.inputs.size()];
        for (int i = in.length - 1; i >= 0; i--) {
            in[i] = number & (1 << code.inputs.get(i)) - 1;
            number >>= code.inputs.get(i);
        }
        return in;
    }

    private interface Wanted {
        boolean is(int outcome, int at, int[] vars);
    }

    private int search(Wanted wanted) {
        witness = -1;
        for (int number = 0; number < 1 << bits(); number++) {
            int[] vars = new int[code.variables.size()];
            int outcome = attempt(split(number), vars);
            if (wanted.is(outcome, stoppedAt, vars)) {
                witness = number;
                return 1;
            }
        }
        return 0;
    }

    private void need() {
        if (code == null) {
            throw new IllegalStateException();
        }
    }

    private void within(int i, int size) {
        if (i < 0 || i >= size) {
            throw new NoSuchElementException();
        }
    }

    int fails() {
        need();
        return search((o, at, vars) -> o == 1);
    }

    int failsAt(int k) {
        need();
        within(k, code.assertions);
        return search((o, at, vars) -> o == 1 && at == k);
    }

    private int extreme(int v, int sign) {
        need();
        within(v, code.variables.size());
        int best = -1;
        int number = -1;
        for (int n = 0; n < 1 << bits(); n++) {
            int[] vars = new int[code.variables.size()];
            if (attempt(split(n), vars) == 0 && (best < 0 || sign * vars[v] < sign * best)) {
                best = vars[v];
                number = n;
            }
        }
        witness = number;
        return best;
    }

    int least(int v) {
        return extreme(v, 1);
    }

    int greatest(int v) {
        return extreme(v, -1);
    }

    int differ(int v, int w) {
        need();
        within(v, code.variables.size());
        within(w, code.variables.size());
        return search((o, at, vars) -> o == 0 && vars[v] != vars[w]);
    }

    int can(int v, int x) {
        need();
        within(v, code.variables.size());
        return search((o, at, vars) -> o == 0 && vars[v] == x);
    }

    int ends() {
        need();
        int[] n = {0};
        search((o, at, vars) -> o == 0 && ++n[0] == 20);
        witness = -1;
        return n[0];
    }

    int witness(int i) {
        need();
        within(i, witness < 0 ? 0 : inputs.length);
        return split(witness)[i];
    }

    void set(int i, int x) {
        need();
        within(i, inputs.length);
        inputs[i] = x & (1 << code.inputs.get(i)) - 1;
    }

    void take() {
        need();
        if (witness < 0) {
            throw new NoSuchElementException();
        }
        inputs = split(witness);
    }

    int run() {
        need();
        left = new int[code.variables.size()];
        int outcome = attempt(inputs, left);
        failedAt = stoppedAt;
        return outcome;
    }

    int value(int v) {
        need();
        within(v, code.variables.size());
        return left == null ? 0 : left[v];
    }

    int count(int what) {
        switch (what) {
            case 0: return text.length;
            case 1: return fault;
            case 2: return where;
            case 3: return code == null ? 0 : code.inputs.size();
            case 4: return code == null ? 0 : code.variables.size();
            case 5: return code == null ? 0 : code.assertions;
            case 6: return code == null ? 0 : (int) code.work;
            case 7: return failedAt;
            case 8: return witness < 0 ? 0 : 1;
            case 9: return 0;
            default: return -1;
        }
    }
}
