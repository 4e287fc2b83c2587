import java.io.IOException;
import java.lang.reflect.InvocationTargetException;
import java.lang.reflect.Method;
import java.net.URL;
import java.net.URLClassLoader;
import java.nio.file.Files;
import java.nio.file.Path;
import java.util.ArrayList;
import java.util.List;
import java.util.regex.Matcher;
import java.util.regex.Pattern;
import java.util.stream.Stream;
import javax.tools.ToolProvider;

/** The calls of README.md, as they stand there, answer what it says behind them. */
public final class ReadmeTest {
    private static final Pattern ANSWERED = Pattern.compile("^(hall\\..*);\\s*// (-?\\d+): .*$");

    private ReadmeTest() {
    }

    public static void main(String[] args) throws IOException, ReflectiveOperationException {
        String text = Files.readString(Path.of("README.md"));
        Path out = Files.createTempDirectory("readme");
        try {
            run(text, out);
        } finally {
            delete(out);
        }
        named(text);
        Hall.finish();
    }

    private static void run(String text, Path out) throws IOException, ReflectiveOperationException {
        Path file = out.resolve("Readme.java");
        List<String> calls = new ArrayList<>();
        List<Integer> due = new ArrayList<>();
        Files.writeString(file, program(text, calls, due));
        Hall.must("README.md tells the answers of many calls: " + calls.size(), calls.size() >= 14);
        String classes = System.getProperty("java.class.path");
        int made = ToolProvider.getSystemJavaCompiler().run(null, null, null, "-cp", classes, "-d", out.toString(), file.toString());
        Hall.must("the calls of README.md compile", made == 0);
        if (made == 0) {
            try (URLClassLoader loader = new URLClassLoader(new URL[] {out.toUri().toURL()})) {
                int[] answers = (int[]) loader.loadClass("Readme").getMethod("go").invoke(null);
                for (int i = 0; i < calls.size(); i++) {
                    int answer = answers[i];
                    Hall.due(calls.get(i), () -> answer, due.get(i));
                }
            } catch (InvocationTargetException e) {
                Hall.must("the calls of README.md throw " + e.getCause(), false);
            }
        }
    }

    /** Its block of Java, which hands over what each call answers of which that is told. */
    private static String program(String text, List<String> calls, List<Integer> due) {
        int start = text.indexOf("```java\n") + 8;
        StringBuilder b = new StringBuilder("public class Readme { public static int[] go() { int[] all = new int[99];\n");
        for (String line : text.substring(start, text.indexOf("```", start)).split("\n")) {
            Matcher m = ANSWERED.matcher(line);
            if (m.matches()) {
                b.append("all[").append(calls.size()).append("] = ");
                calls.add(m.group(1));
                due.add(Integer.valueOf(m.group(2)));
            }
            b.append(line).append('\n');
        }
        return b.append("return all; } }\n").toString();
    }

    /** It names each call of the face, and each test. */
    private static void named(String text) throws IOException {
        for (Method m : ProofHall.class.getMethods()) {
            if (m.getDeclaringClass() == ProofHall.class) {
                Hall.must("README.md doesn't tell of " + m.getName(), text.contains("`" + m.getName() + "("));
            }
        }
        try (Stream<Path> files = Files.list(Path.of("src/test/java"))) {
            for (Path file : (Iterable<Path>) files::iterator) {
                String name = file.getFileName().toString().replace(".java", "");
                Hall.must("README.md doesn't tell of " + name, name.equals("Hall") || text.contains("`" + name + "`"));
            }
        }
    }

    private static void delete(Path directory) throws IOException {
        try (Stream<Path> files = Files.list(directory)) {
            for (Path file : (Iterable<Path>) files::iterator) {
                Files.delete(file);
            }
        }
        Files.delete(directory);
    }
}
