import java.lang.reflect.Field;
import java.lang.reflect.InvocationTargetException;
import java.lang.reflect.Method;
import java.util.Random;

/**
 * No PROGRAM that TEXT's length, the DEPTH and WORK let in needs more room than there is: what an
 * operation makes at most, of which the sizes of the rows are made up, and texts that are full of
 * what makes most. The rows are looked at inside, as no call tells how full they are.
 */
public final class RoomTest {
    private static final int FIRST_BINARY = 1;
    private static final int FIRST_ARITHMETIC = 12;
    private static final int LAST_BINARY = 18;
    private static final int LAST_UNARY = 21;
    /** What the comment at the row of gates promises. */
    private static final int MOST_GATES = 8500;

    private static int wrong = 0;

    private static void must(boolean so, String what) {
        if (!so) {
            wrong++;
            System.out.println(what);
        }
    }

    private static Object call(Object who, String name, int... args) throws ReflectiveOperationException {
        for (Method m : who.getClass().getDeclaredMethods()) {
            if (m.getName().equals(name) && m.getParameterCount() == args.length) {
                Object[] all = new Object[args.length];
                for (int i = 0; i < args.length; i++) {
                    all[i] = args[i];
                }
                m.setAccessible(true);
                try {
                    return m.invoke(who, all);
                } catch (InvocationTargetException e) {
                    throw new IllegalStateException(name, e);
                }
            }
        }
        throw new NoSuchMethodException(name);
    }

    private static int constant(String inside, String name) throws ReflectiveOperationException {
        Field f = Class.forName("ProofHall$" + inside).getDeclaredField(name);
        f.setAccessible(true);
        return f.getInt(null);
    }

    public static void main(String[] args) throws ReflectiveOperationException {
        operations();
        rows();
        handMade();
        byChance(400);
        oneBehindAnother();
        farCuts();
        System.out.println(wrong == 0 ? "there's room for all" : wrong + " wrong");
        if (wrong != 0) {
            System.exit(1);
        }
    }

    /** A row of literals none of which any gate knows yet. */
    private static void fresh(Object words, int at, int width) throws ReflectiveOperationException {
        int[] bits = (int[]) Inside.part(words, "bits");
        Object circuit = Inside.part(words, "circuit");
        for (int i = 0; i < 8; i++) {
            bits[at + i] = i < width ? (Integer) call(circuit, "leaf") : 1;
        }
    }

    private static int gates(Object words) throws ReflectiveOperationException {
        return (Integer) Inside.part(words, "circuit", "size");
    }

    /** Each operation makes at most three gates for a unit of WORK, and its truth one more. */
    private static void operations() throws ReflectiveOperationException {
        Object words = Inside.part(new ProofHall(), "inquiry", "encoder", "words");
        for (int what = FIRST_BINARY; what <= LAST_UNARY + 1; what++) {
            for (int first = 1; first <= 8; first++) {
                for (int second = 1; second <= 8; second++) {
                    call(Inside.part(words, "circuit"), "clear");
                    fresh(words, 0, first);
                    fresh(words, 8, second);
                    fresh(words, 16, second);
                    int before = gates(words);
                    int widest = what > LAST_BINARY && what <= LAST_UNARY ? first : Math.max(first, second);
                    int work = what >= 16 && what <= 18 ? widest * widest : what == 12 || what == 13 ? 4 * widest : widest;
                    operate(words, what, what == 12 || what == 13 ? first : widest);
                    int made = gates(words) - before;
                    call(words, "truth", 0);
                    int withTruth = gates(words) - before;
                    String which = "operation " + what + " of " + first + " and " + second + " bits: ";
                    must(made <= 3 * work, which + made + " gates for " + work);
                    must(withTruth <= 4 * work, which + withTruth + " gates with its truth for " + work);
                }
            }
        }
    }

    private static void operate(Object words, int what, int width) throws ReflectiveOperationException {
        if (what < FIRST_ARITHMETIC) {
            call(words, "logic", what, 0, 8);
        } else if (what <= LAST_BINARY) {
            call(words, "arithmetic", what, 0, 8, width);
        } else if (what <= LAST_UNARY) {
            call(words, "single", what, 0, width);
        } else {
            call(words, "choose", 0, 8, 16);
        }
    }

    private static void rows() throws ReflectiveOperationException {
        int gates = constant("Circuit", "GATES");
        must(gates > MOST_GATES, "gates: " + gates);
        must(constant("Clauses", "MEMORY") >= 24 * gates + constant("Clauses", "FAR_ROOM"), "clauses");
        must(constant("Clauses", "FAR_ROOM") >= 4096 * 15 + 255 * 88 + 20 * 15, "far room");
        must(constant("Program", "STEPS") >= 4096 * 2 / 5 + 2, "steps");
    }

    private static void fits(String text) throws ReflectiveOperationException {
        String shown = text.length() > 70 ? text.substring(0, 70) + ".." : text;
        ProofHall hall = new ProofHall();
        Hall.feed(hall, text);
        must(Hall.outcome(hall::build) >= 0, "no PROGRAM: " + shown + " fault " + hall.count(1) + " at " + hall.count(2));
        int gates = (Integer) Inside.part(hall, "inquiry", "encoder", "words", "circuit", "size");
        must(gates <= MOST_GATES, gates + " gates: " + shown);
        hall.fails();
        hall.ends();
        for (int v = 0; v < hall.count(4); v++) {
            hall.least(v);
            hall.greatest(v);
            hall.differ(v, 0);
        }
        must(hall.count(9) == 0, "count(9) is " + hall.count(9) + ": " + shown);
    }

    /** Ifs in ifs without blanks, in an order that never comes again, so that no gate serves twice. */
    private static String ifs(String names, String inmost, int length) {
        StringBuilder b = new StringBuilder();
        Random random = new Random(7);
        while (b.length() + 29 * 5 + inmost.length() <= length) {
            for (int i = 0; i < 29; i++) {
                b.append("if(").append(names.charAt(random.nextInt(names.length()))).append(")");
            }
            b.append(inmost);
        }
        return b.toString();
    }

    private static String full(String start, String names, String inmost) {
        return start + ifs(names, inmost, 4096 - start.length());
    }

    private static void handMade() throws ReflectiveOperationException {
        StringBuilder bits = new StringBuilder();
        StringBuilder zeros = new StringBuilder();
        for (char c = 'a'; c <= 'l'; c++) {
            bits.append("input ").append(c).append(":1;");
            zeros.append("while0(").append(c).append("){}");
        }
        String two = "input a:8;input b:4;";
        // Without VARIABLES: sums of most WORK, each sum's truth asked for or not, and ifs for the rest.
        fits(full(two + "if(" + "a+b-".repeat(93) + "a){}", "ab", "{}"));
        fits(full(two + "if(" + "a+b-".repeat(93) + "a){}", "ab", "while0(b){}"));
        fits(full(two + "if(" + "a/".repeat(23) + "a){}", "ab", "while0(b){}"));
        fits(full(two + "if(" + "a/".repeat(11) + "a%(" + "b/".repeat(40) + "b)){}", "ab", "while0(a){}"));
        fits(full(bits + "if(a" + "/b%c".repeat(700) + "){}", "abcdefghijkl", "while0(b){}"));
        fits(full(bits.toString(), "abcdefghijkl", "while0(a){}"));
        fits(full(bits.toString(), "abcdefghijkl", "{}"));
        // With them: what is denied in all places of an if, in rounds.
        fits(bits + "var x:8;x=a*3+b*9;while8(x<200){while2(x>3){"
            + ("if(x){" + zeros + "while0(x){}}else{" + zeros + "}" + zeros).repeat(7) + "}}");
        fits(bits + "var x:1;while8(!x){while2(!x){"
            + ("if(x){" + zeros + "while0(x){}}else{" + zeros + "}" + zeros).repeat(8) + "x=x^b;}}");
        fits(two + "var x:8;x=a;" + "if(x)x=x+b;while0(x){}".repeat(62));
        fits(two + "var x:8;x=a;" + "while1(x)x=x-b;".repeat(46));
        fits(two + "var x:8;var y:8;x=a^b;y=b+a;x=" + "x+y+".repeat(89) + "a;");
        fits("input a:8;input b:4;" + "var x:8;" + "x=a;" + ("x=x+b;assert x;").repeat(57));
    }

    /** One object, PROGRAMS of most gates: what one takes is free again for the next. */
    private static void oneBehindAnother() {
        ProofHall hall = new ProofHall();
        for (int n = 0; n < 40; n++) {
            Hall.feed(hall, "input a:8;input b:4;var x:8;var y:8;x=a+" + n + ";y=b;x=" + "x/y%".repeat(11) + "x;");
            must(Hall.outcome(hall::build) == 0, "build " + n);
            must(Hall.outcome(() -> hall.can(0, 77)) >= 0, "can " + n);
            must(Hall.outcome(() -> hall.differ(0, 1)) == 1, "differ " + n);
            must(hall.count(9) == 0, "count(9) is " + hall.count(9) + " behind build " + n);
        }
    }

    /** The room for near cuts gets full, that for far ones doesn't. */
    private static void farCuts() throws ReflectiveOperationException {
        int memory = constant("Clauses", "MEMORY");
        int near = memory - constant("Clauses", "FAR_ROOM") - constant("Circuit", "GATES");
        for (String text : LimitTest.FAR) {
            ProofHall hall = Hall.with(text);
            hall.greatest(0);
            int top = (Integer) Inside.part(hall, "inquiry", "solver", "clauses", "top");
            must(top > near && top < memory, top + " places in use of " + near + " and " + memory);
            must(hall.count(9) == 0, "count(9) is " + hall.count(9) + " behind far cuts");
        }
    }

    private static void byChance(int many) throws ReflectiveOperationException {
        Programs programs = new Programs(11, true);
        for (int n = 0; n < many; n++) {
            String text = programs.program();
            ProofHall hall = new ProofHall();
            if (text.length() <= 4080) {
                Hall.feed(hall, text);
                if (Hall.outcome(hall::build) >= 0) {
                    int gates = (Integer) Inside.part(hall, "inquiry", "encoder", "words", "circuit", "size");
                    must(gates <= 6 * hall.count(6) + 3 * (text.length() / 5) + 50, gates + " gates: " + text);
                }
            }
        }
    }
}
