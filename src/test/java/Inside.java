import java.lang.reflect.Array;
import java.lang.reflect.Field;
import java.lang.reflect.Modifier;
import java.util.Collections;
import java.util.IdentityHashMap;
import java.util.Set;

/** What no call tells of an object, read from inside it. */
final class Inside {
    private Inside() {
    }

    static Object part(Object who, String... names) {
        Object at = who;
        try {
            for (String name : names) {
                Field f = at.getClass().getDeclaredField(name);
                f.setAccessible(true);
                at = f.get(at);
            }
        } catch (ReflectiveOperationException e) {
            throw new IllegalStateException(String.join(".", names), e);
        }
        return at;
    }

    static void put(Object who, String name, Object what) {
        try {
            Field f = who.getClass().getDeclaredField(name);
            f.setAccessible(true);
            f.set(who, what);
        } catch (ReflectiveOperationException e) {
            throw new IllegalStateException(name, e);
        }
    }

    /** How many steps of proofs have been checked. */
    static int steps(ProofHall hall) {
        return (Integer) part(hall, "inquiry", "solver", "checker", "step");
    }

    /** Of the latest question: how many clauses it has in all. */
    static int clauses(ProofHall hall) {
        int[] memory = (int[]) part(hall, "inquiry", "solver", "clauses", "memory");
        int top = (Integer) part(hall, "inquiry", "solver", "clauses", "top");
        int all = 0;
        for (int at = 1; at < top; at += 3 + memory[at]) {
            all++;
        }
        return all;
    }

    /** Of the latest question: how many clauses the gates are on which it hangs; an AND has three, others four. */
    static int gateClauses(ProofHall hall) {
        int[] marked = (int[]) part(hall, "inquiry", "solver", "clauses", "marked");
        int[] kinds = (int[]) part(hall, "inquiry", "encoder", "words", "circuit", "kind");
        int size = (Integer) part(hall, "inquiry", "encoder", "words", "circuit", "size");
        int all = 0;
        for (int gate = 1; gate < size; gate++) {
            all += marked[gate] == 0 || kinds[gate] == 0 ? 0 : kinds[gate] == 1 ? 3 : 4;
        }
        return all;
    }

    /** Fields and elements of all that an object holds. */
    static long elements(Object o) {
        return elements(o, Collections.newSetFromMap(new IdentityHashMap<>()));
    }

    private static long elements(Object o, Set<Object> seen) {
        if (o == null || !seen.add(o)) {
            return 0;
        }
        if (o.getClass().isArray()) {
            return Array.getLength(o);
        }
        long n = 0;
        for (Field f : o.getClass().getDeclaredFields()) {
            if (!Modifier.isStatic(f.getModifiers())) {
                n += 1 + (f.getType().isPrimitive() ? 0 : elements(part(o, f.getName()), seen));
            }
        }
        return n;
    }

    /** The class of something in the object that is neither of ProofHall's own nor a row of numbers, or null. */
    static Class<?> foreign(Object o) {
        return foreign(o, Collections.newSetFromMap(new IdentityHashMap<>()));
    }

    private static Class<?> foreign(Object o, Set<Object> seen) {
        if (o == null || !seen.add(o)) {
            return null;
        }
        Class<?> kind = o.getClass();
        if (kind.isArray()) {
            return kind.getComponentType().isPrimitive() ? null : kind;
        }
        if (kind != ProofHall.class && kind.getNestHost() != ProofHall.class) {
            return kind;
        }
        for (Field f : kind.getDeclaredFields()) {
            if (!Modifier.isStatic(f.getModifiers()) && !f.getType().isPrimitive()) {
                Class<?> found = foreign(part(o, f.getName()), seen);
                if (found != null) {
                    return found;
                }
            }
        }
        return null;
    }
}
