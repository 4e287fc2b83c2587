import java.lang.reflect.Constructor;
import java.lang.reflect.Method;

/**
 * The checker must refuse what doesn't follow: no call of the face can show that, as the search
 * makes no wrong steps, so this looks inside.
 */
public final class CheckerTest {
    private static final int A = 10;
    private static final int B = 12;
    private static final int C = 14;
    private static int wrong = 0;

    private static Object made(String name) throws ReflectiveOperationException {
        Constructor<?> c = Class.forName("ProofHall$" + name).getDeclaredConstructor();
        c.setAccessible(true);
        return c.newInstance();
    }

    private static Object call(Object who, String name, Object... args) throws ReflectiveOperationException {
        for (Method m : who.getClass().getDeclaredMethods()) {
            if (m.getName().equals(name) && m.getParameterCount() == args.length) {
                m.setAccessible(true);
                return m.invoke(who, args);
            }
        }
        throw new NoSuchMethodException(name);
    }

    /** The steps told, one behind the other, and how many of them must be refused. */
    private static void refuses(String what, int want, int[][] clauses, int[]... steps) throws ReflectiveOperationException {
        Object checker = made("Checker");
        Object store = made("Clauses");
        call(store, "clear", 100);
        call(checker, "clear", 100);
        int[] refs = new int[clauses.length];
        for (int i = 0; i < clauses.length; i++) {
            refs[i] = (Integer) call(store, "add", clauses[i], clauses[i].length);
        }
        for (int i = 0; i < steps.length; i += 2) {
            int[] hints = steps[i + 1].clone();
            for (int j = 0; j < hints.length; j++) {
                hints[j] = refs[hints[j]];
            }
            call(checker, "check", Inside.part(store, "memory"), steps[i], steps[i].length, hints, hints.length);
        }
        int got = (Integer) Inside.part(checker, "wrong");
        if (got != want) {
            wrong++;
            System.out.println(what + ": " + got + " refused, due are " + want);
        }
    }

    public static void main(String[] args) throws ReflectiveOperationException {
        int[][] chain = {{A ^ 1, B}, {B ^ 1, C}, {A, C}};
        int[] none = {};
        // Hints are told from the last to the first.
        refuses("a implies c", 0, chain, new int[] {A ^ 1, C}, new int[] {1, 0});
        refuses("c", 0, chain, new int[] {C}, new int[] {2, 0, 1});
        refuses("c, and the empty clause with its denial", 0, new int[][] {{A ^ 1, B}, {B ^ 1, C}, {A, C}, {C ^ 1}},
            new int[] {C}, new int[] {2, 0, 1}, none, new int[] {3});
        refuses("a literal and its denial", 0, chain, new int[] {B, B ^ 1}, none);
        refuses("the constant", 0, chain, new int[] {0}, none);
        refuses("b", 1, chain, new int[] {B}, new int[] {0});
        refuses("c without hints", 1, chain, new int[] {C}, none);
        refuses("c with hints that don't clash", 1, chain, new int[] {C}, new int[] {1});
        refuses("the empty clause", 1, chain, none, new int[] {0, 1, 2});
        refuses("the empty clause from nothing", 1, chain, none, none);
        refuses("a fact that was refused is no fact", 2, chain, new int[] {A}, none, new int[] {B}, new int[] {0});
        refuses("a hint that tells nothing", 1, new int[][] {{A, B, C}}, new int[] {A}, new int[] {0});
        models();
        forgets();
        noClause();
        questions();
        System.out.println(wrong == 0 ? "the checker refuses what it must" : wrong + " wrong");
        if (wrong != 0) {
            System.exit(1);
        }
    }

    private static Object checkerOf(ProofHall hall) {
        return Inside.part(hall, "inquiry", "solver", "checker");
    }

    private static void must(boolean so, String what) {
        if (!so) {
            wrong++;
            System.out.println(what);
        }
    }

    /** The hint of what has no reason is none. */
    private static void noClause() throws ReflectiveOperationException {
        Object checker = made("Checker");
        Object store = made("Clauses");
        call(store, "clear", 100);
        call(checker, "clear", 100);
        call(store, "add", new int[] {A, B}, 2);
        call(checker, "check", Inside.part(store, "memory"), new int[] {}, 0, new int[] {0}, 1);
        call(checker, "check", Inside.part(store, "memory"), new int[] {C}, 1, new int[] {0}, 1);
        must((Integer) Inside.part(checker, "wrong") == 2, "a hint that is no clause is taken for one");
    }

    /** Questions have their steps checked, those to a "no" and those to the least INPUTS, each by itself. */
    private static void questions() throws ReflectiveOperationException {
        ProofHall never = Hall.with("input a:6;input b:6;assert a*b==b*a;assert (a+b)*(a+b)==a*a+b*b+(a*b<<1);");
        never.fails();
        int steps = Inside.steps(never);
        must(steps >= 1000, "a no of " + steps + " steps");
        ProofHall some = Hall.with("input a:6;input b:6;var x:6;x=a|b;");
        some.can(0, 63);
        // Six bits that must be 1, and six bits of INPUTS that have to be, as those before them are 0.
        int least = Inside.steps(some);
        must(least >= 12, "least INPUTS of " + least + " steps");
        ProofHall free = Hall.with("input a:4;input b:4;assert a+b!=9;");
        free.fails();
        int before = Inside.steps(free);
        free.fails();
        must(Inside.steps(free) == 2 * before && before > 0, "each question has its own steps");
        ProofHall other = Hall.with("input a:4;var x:4;x=a;");
        for (int x = 0; x < 16; x++) {
            other.can(0, x);
            int[] proved = (int[]) Inside.part(checkerOf(other), "proved");
            for (int literal = 0; literal < 200; literal += 2) {
                must(proved[literal] + proved[literal + 1] <= 1, "what was proved of another question is left: " + literal);
            }
        }
    }

    /** What was proved for one question isn't for the next. */
    private static void forgets() throws ReflectiveOperationException {
        Object checker = made("Checker");
        Object store = made("Clauses");
        for (int round = 0; round < 2; round++) {
            call(store, "clear", 100);
            call(checker, "clear", 100);
            int fact = (Integer) call(store, "add", new int[] {A}, 1);
            int implies = (Integer) call(store, "add", new int[] {A ^ 1, B}, 2);
            Object memory = Inside.part(store, "memory");
            if (round == 0) {
                call(checker, "check", memory, new int[] {A}, 1, new int[] {fact}, 1);
            }
            call(checker, "check", memory, new int[] {B}, 1, new int[] {implies}, 1);
            int got = (Integer) Inside.part(checker, "wrong");
            if (got != round) {
                wrong++;
                System.out.println("a fact of another question: " + got + " refused, due are " + round);
            }
        }
    }

    private static void models() throws ReflectiveOperationException {
        Object store = made("Clauses");
        call(store, "clear", 100);
        int[] values = new int[200];
        values[A] = 1;
        values[A ^ 1] = -1;
        values[C] = -1;
        values[C ^ 1] = 1;
        call(store, "add", new int[] {A, B}, 2);
        call(store, "add", new int[] {B, C ^ 1, A ^ 1}, 3);
        if (!(Boolean) call(store, "allHold", values)) {
            wrong++;
            System.out.println("a model isn't taken for one");
        }
        call(store, "add", new int[] {A ^ 1, B, C}, 3);
        if ((Boolean) call(store, "allHold", values)) {
            wrong++;
            System.out.println("what is no model is taken for one");
        }
    }
}
