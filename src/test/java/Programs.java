import java.util.Random;

/** Writes texts by chance: programs that can be built for the most part, and spoiled ones. */
final class Programs {
    private static final String[] BINARY = {
        "||", "&&", "|", "^", "&", "==", "!=", "<", "<=", ">", ">=", "<<", ">>", "+", "-", "*", "/", "%"};
    private static final String[] PIECES = {
        "input", "var", "if", "else", "while", "assert", "assume", "a", "x", "toolongname", "0", "1", "8", "9", "255",
        "256", "(", ")", "{", "}", ";", ":", "=", "?", "!", "~", "-", "+", "*", "==", "<<", "&&", "|", "@", "\t"};

    private final Random random;
    private final boolean heavy;
    private int inputs;
    private int variables;

    Programs(long seed, boolean heavy) {
        random = new Random(seed);
        this.heavy = heavy;
    }

    private int upTo(int n) {
        return random.nextInt(n);
    }

    String program() {
        StringBuilder b = new StringBuilder();
        inputs = 0;
        variables = 0;
        int bits = heavy ? 12 : upTo(13);
        while (bits > 0) {
            int w = Math.min(bits, 1 + upTo(8));
            b.append("input n").append((char) ('a' + inputs)).append(':').append(w).append(";");
            inputs++;
            bits -= w;
        }
        int most = upTo(10) == 0 ? 13 : 5;
        for (int n = upTo(most); n > 0; n--) {
            b.append("var v").append((char) ('a' + variables)).append(':').append(1 + upTo(8)).append("; ");
            variables++;
        }
        for (int n = 1 + upTo(heavy ? 10 : 7); n > 0; n--) {
            statement(b, 0);
        }
        return b.toString();
    }

    private void statement(StringBuilder b, int depth) {
        int what = upTo(depth > 3 ? 8 : 14);
        if (what < 5 && variables > 0) {
            b.append('v').append((char) ('a' + upTo(variables))).append(" = ");
            expr(b, 0);
            b.append(";\n");
        } else if (what < 7) {
            b.append("assert ");
            likely(b);
            b.append(";");
        } else if (what < 8) {
            b.append("assume ");
            likely(b);
            b.append(";");
        } else if (what < 11) {
            b.append("if (");
            expr(b, 1);
            b.append(") ");
            statement(b, depth + 1);
            if (upTo(2) == 0) {
                b.append(" else ");
                statement(b, depth + 1);
            }
        } else if (what < 12) {
            b.append("while ").append(upTo(upTo(5) == 0 ? 9 : 4)).append("(");
            expr(b, 1);
            b.append(")");
            statement(b, depth + 1);
        } else {
            b.append("{");
            for (int n = upTo(4); n > 0; n--) {
                statement(b, depth + 1);
            }
            b.append("}");
        }
    }

    /** A claim that holds for most INPUTS, so that some RUNS come further. */
    private void likely(StringBuilder b) {
        if (upTo(3) == 0) {
            expr(b, 0);
        } else {
            expr(b, 1);
            b.append(upTo(2) == 0 ? " != " : " <= ").append(upTo(3) == 0 ? upTo(256) : 200 + upTo(56));
        }
    }

    private void expr(StringBuilder b, int depth) {
        int what = upTo(depth > 4 ? 4 : 12);
        if (what < 3) {
            int who = inputs + variables == 0 ? 0 : upTo(inputs + variables);
            if (inputs + variables == 0 || upTo(4) == 0) {
                b.append(upTo(3) == 0 ? upTo(256) : upTo(8));
            } else if (who < inputs) {
                b.append('n').append((char) ('a' + who));
            } else {
                b.append('v').append((char) ('a' + who - inputs));
            }
        } else if (what < 4) {
            b.append("!~-".charAt(upTo(3)));
            expr(b, depth + 1);
        } else if (what < 9) {
            expr(b, depth + 1);
            b.append(heavy && upTo(2) == 0 ? BINARY[13 + upTo(5)] : BINARY[upTo(BINARY.length)]);
            expr(b, depth + 1);
        } else if (what < 11) {
            b.append("(");
            expr(b, depth + 1);
            b.append(")");
        } else {
            b.append("(");
            expr(b, depth + 1);
            b.append(" ? ");
            expr(b, depth + 1);
            b.append(" : ");
            expr(b, depth + 1);
            b.append(")");
        }
    }

    /** As much as goes in: into 4096 bytes, and into a WORK of 1500, which the reference tells. */
    String full() {
        StringBuilder b = new StringBuilder();
        inputs = 0;
        variables = 0;
        for (int bits = 12; bits > 0; inputs++) {
            int w = Math.min(bits, 1 + upTo(upTo(2) == 0 ? 8 : 2));
            b.append("input n").append((char) ('a' + inputs)).append(':').append(w).append(";");
            bits -= w;
        }
        for (int n = upTo(2) == 0 ? 0 : 1 + upTo(3); n > 0; n--) {
            b.append("var v").append((char) ('a' + variables)).append(':').append(1 + upTo(8)).append(";");
            variables++;
        }
        for (int n = 0; n < 250; n++) {
            StringBuilder more = new StringBuilder();
            if (upTo(3) == 0) {
                statement(more, upTo(4));
            } else {
                cheap(more);
            }
            if (b.length() + more.length() <= 4096 && goes(b.toString() + more)) {
                b.append(more);
            }
        }
        return b.toString();
    }

    private static boolean goes(String text) {
        Reference reference = new Reference();
        reference.feedAll(text);
        return Hall.outcome(reference::build) >= 0;
    }

    private String anyName() {
        int who = upTo(inputs + variables);
        return who < inputs ? "n" + (char) ('a' + who) : "v" + (char) ('a' + who - inputs);
    }

    /** What has little WORK or none. */
    private void cheap(StringBuilder b) {
        int n = upTo(2) == 0 ? upTo(27) : upTo(4);
        for (int i = 0; i < n; i++) {
            b.append(upTo(6) == 0 ? "if(!" : "if(").append(anyName()).append(")");
            if (upTo(9) == 0) {
                b.append("while0(").append(anyName()).append("){}else ");
            }
        }
        if (upTo(5) == 0) {
            b.append("while").append(upTo(9)).append("(").append(anyName()).append("==").append(upTo(9)).append(")");
        }
        switch (upTo(4)) {
            case 0:
                b.append("{}");
                break;
            case 1:
                b.append("while0(").append(anyName()).append(">").append(upTo(250)).append("){}");
                break;
            case 2:
                b.append("assert ").append(anyName()).append("!=").append(upTo(upTo(2) == 0 ? 250 : 9)).append(";");
                break;
            default:
                b.append("while0(").append(anyName()).append("&&").append(anyName()).append("){}");
                break;
        }
    }

    /** A program with a few pieces put in, left out or doubled. */
    String spoiled() {
        StringBuilder b = new StringBuilder(program());
        for (int n = 1 + upTo(3); n > 0 && b.length() > 0; n--) {
            int at = upTo(b.length());
            switch (upTo(3)) {
                case 0:
                    b.insert(at, PIECES[upTo(PIECES.length)]);
                    break;
                case 1:
                    b.delete(at, Math.min(b.length(), at + 1 + upTo(3)));
                    break;
                default:
                    b.insert(at, b.substring(at, Math.min(b.length(), at + upTo(9))));
                    break;
            }
        }
        return b.toString();
    }

    /** Constructs of all kinds one in another, about as deep as can be. */
    String deep() {
        StringBuilder open = new StringBuilder("var x:1;");
        StringBuilder close = new StringBuilder();
        int whole = 27 + upTo(7);
        int outside = upTo(whole + 1);
        for (int n = 0; n < outside; n++) {
            nestStatement(open, close);
        }
        open.append(upTo(9) == 0 ? "{}" : "x=");
        close.insert(0, ";");
        for (int n = outside; n < whole; n++) {
            nestExpr(open, close);
        }
        return open.append(upTo(30) == 0 ? "" : "x").append(close).toString();
    }

    private void nestStatement(StringBuilder open, StringBuilder close) {
        switch (upTo(6)) {
            case 0:
                open.append("{");
                close.insert(0, "}");
                break;
            case 1:
                open.append("if(x)");
                break;
            case 2:
                open.append("if(x)");
                close.insert(0, "else x=!x;");
                break;
            case 3:
                open.append("if(x){}else ");
                break;
            case 4:
                open.append("while 0(x)");
                break;
            default:
                open.append("{x=x;");
                close.insert(0, "x=(x);}");
                break;
        }
    }

    private void nestExpr(StringBuilder open, StringBuilder close) {
        switch (upTo(6)) {
            case 0:
                open.append("x*(");
                close.insert(0, ")^x");
                break;
            case 1:
                open.append("!~-".charAt(upTo(3)));
                break;
            case 2:
                open.append("x?");
                close.insert(0, ":x");
                break;
            case 3:
                open.append("x?x:");
                break;
            case 4:
                open.append("(x?");
                close.insert(0, ":(x))");
                break;
            default:
                open.append("x&x+(");
                close.insert(0, ")");
                break;
        }
    }
}
