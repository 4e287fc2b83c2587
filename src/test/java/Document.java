import java.io.IOException;
import java.io.UncheckedIOException;
import java.lang.reflect.Constructor;
import java.lang.reflect.Method;
import java.lang.reflect.Modifier;
import java.nio.file.Files;
import java.nio.file.Path;
import java.util.ArrayList;
import java.util.List;
import java.util.Set;
import java.util.TreeSet;
import java.util.regex.Matcher;
import java.util.regex.Pattern;

/** The document itself: its face, and whether all of its words stand in sentences that have a test. */
final class Document {
    private static final Path FILE = Path.of("../shared/DOC.md");

    private final List<String> face = new ArrayList<>();
    private final List<String> signatures = new ArrayList<>();
    private final StringBuilder prose = new StringBuilder();

    Document() {
        if (Files.exists(FILE)) {
            read();
        } else {
            System.out.println("no document at " + FILE + ": the tests' words are NOT compared with it");
        }
    }

    /** The face goes by itself, and so does what stands in `..` at the start of a promise. */
    private void read() {
        List<String> lines;
        try {
            lines = Files.readAllLines(FILE);
        } catch (IOException e) {
            throw new UncheckedIOException(e);
        }
        boolean java = false;
        for (String line : lines) {
            java = line.startsWith("```") ? line.equals("```java") : java;
            Matcher promise = Pattern.compile("^`([^`]*)`: (.*)$").matcher(line);
            if (java && !line.startsWith("```")) {
                face.add(line.strip());
            } else if (promise.matches()) {
                signatures.add(promise.group(1));
                prose.append(promise.group(2)).append(' ');
            } else if (!line.startsWith("```")) {
                prose.append(line.strip()).append(' ');
            }
        }
    }

    /** The class's own methods and constructors, in the document's words but for the names of numbers. */
    private static Set<String> made() {
        Set<String> all = new TreeSet<>();
        all.add(Modifier.toString(ProofHall.class.getModifiers()) + " class ProofHall {");
        for (Constructor<?> c : ProofHall.class.getDeclaredConstructors()) {
            all.add(Modifier.toString(c.getModifiers()) + " ProofHall(" + types(c.getParameterTypes()) + ");");
        }
        for (Method m : ProofHall.class.getDeclaredMethods()) {
            if (!Modifier.isPrivate(m.getModifiers())) {
                all.add(Modifier.toString(m.getModifiers()) + " " + m.getReturnType() + " " + m.getName() + "("
                    + types(m.getParameterTypes()) + ")"
                    + (m.getExceptionTypes().length == 0 ? "" : " throws " + types(m.getExceptionTypes())) + ";");
            }
        }
        all.add("}");
        return all;
    }

    private static String types(Class<?>[] types) {
        StringBuilder b = new StringBuilder();
        for (Class<?> type : types) {
            b.append(b.length() == 0 ? "" : ", ").append(type.getName().replace("java.lang.", ""));
        }
        return b.toString();
    }

    private static String unnamed(String line) {
        return line.replaceAll("int \\w+(?=[,)])", "int");
    }

    /** Each line of it, by itself, and nothing else. */
    void asInTheFace() {
        if (face.isEmpty()) {
            return;
        }
        Set<String> due = new TreeSet<>();
        Set<String> made = made();
        for (String line : face) {
            due.add(unnamed(line));
            Hall.must("there's no " + line, made.contains(unnamed(line)));
        }
        Hall.must("the face has lines", face.size() == 19);
        for (String line : made) {
            Hall.must("not in the face: " + line, due.contains(line));
        }
    }

    /** What stands before a promise is what the face says. */
    void asInThePromises() {
        if (face.isEmpty()) {
            return;
        }
        for (String signature : signatures) {
            Hall.must("not in the face: " + signature, face.contains("public " + signature + ";"));
        }
        Hall.must("seventeen promises", signatures.size() == 17);
    }

    /** All words of the document, from the first to the last, must be those told, but for signs between them. */
    void covered(List<String> words) {
        if (face.isEmpty()) {
            return;
        }
        String all = prose.toString().replaceAll("\\s+", " ");
        int at = 0;
        for (String told : words) {
            int next = all.indexOf(told, at);
            Hall.must("the document doesn't say, or not here: " + told, next >= 0);
            if (next >= 0) {
                between(all.substring(at, next));
                at = next + told.length();
            }
        }
        between(all.substring(at));
    }

    private static void between(String gap) {
        Hall.must("no test is for: " + gap, gap.matches("[ .,;:()|]*"));
    }
}
