import java.io.File;
import java.io.IOException;
import java.io.PrintWriter;
import java.io.StringWriter;
import java.lang.reflect.Constructor;
import java.lang.reflect.Field;
import java.lang.reflect.Member;
import java.lang.reflect.Method;
import java.lang.reflect.Modifier;
import java.nio.file.Files;
import java.nio.file.Path;
import java.util.Arrays;
import java.util.HashMap;
import java.util.Map;
import java.util.Set;
import java.util.TreeSet;
import java.util.regex.Matcher;
import java.util.regex.Pattern;
import java.util.spi.ToolProvider;

/** The face, and what of LANGUAGE.md can be read off the class and its source. */
public final class LanguageTest {
    private static final String[] FACE = {
        "int build() IllegalStateException",
        "int can(int, int) IllegalStateException NoSuchElementException",
        "int count(int)",
        "int differ(int, int) IllegalStateException NoSuchElementException",
        "int end(int) IllegalArgumentException",
        "int ends() IllegalStateException",
        "int fails() IllegalStateException",
        "int failsAt(int) IllegalStateException NoSuchElementException",
        "int feed(int, int, int, int, int) IndexOutOfBoundsException",
        "int greatest(int) IllegalStateException NoSuchElementException",
        "int least(int) IllegalStateException NoSuchElementException",
        "int run() IllegalStateException",
        "int value(int) IllegalStateException NoSuchElementException",
        "int witness(int) IllegalStateException NoSuchElementException",
        "void set(int, int) IllegalStateException NoSuchElementException",
        "void take() IllegalStateException NoSuchElementException"};

    private static int wrong = 0;

    private static void must(boolean so, String what) {
        if (!so) {
            wrong++;
            System.out.println(what);
        }
    }

    public static void main(String[] args) throws IOException {
        face();
        classes();
        room();
        callDepth();
        source(Files.readString(Path.of("src/main/java/ProofHall.java")));
        System.out.println(wrong == 0 ? "the face and the rules are kept" : wrong + " breaches");
        if (wrong != 0) {
            System.exit(1);
        }
    }

    private static void face() {
        Set<String> found = new TreeSet<>();
        Set<String> names = new TreeSet<>();
        for (Method m : ProofHall.class.getDeclaredMethods()) {
            if (Modifier.isPublic(m.getModifiers())) {
                StringBuilder b = new StringBuilder(m.getReturnType() + " " + m.getName() + "(");
                for (int i = 0; i < m.getParameterCount(); i++) {
                    b.append(i == 0 ? "" : ", ").append(m.getParameterTypes()[i]);
                }
                b.append(")");
                for (Class<?> e : m.getExceptionTypes()) {
                    b.append(" ").append(e.getSimpleName());
                }
                found.add(b.toString());
                names.add(m.getName());
            }
        }
        must(found.equals(new TreeSet<>(Arrays.asList(FACE))), "rule 1: the face is " + found);
        Constructor<?>[] made = ProofHall.class.getDeclaredConstructors();
        must(made.length == 1 && Modifier.isPublic(made[0].getModifiers()) && made[0].getParameterCount() == 0,
            "rule 1: one public constructor without parameters");
        must(Modifier.isFinal(ProofHall.class.getModifiers()), "rule 1: the class is final");
        for (Class<?> c : ProofHall.class.getDeclaredClasses()) {
            for (Method m : c.getDeclaredMethods()) {
                must(!names.contains(m.getName()), "rule 1: " + c.getSimpleName() + "." + m.getName());
            }
        }
        for (Method m : ProofHall.class.getDeclaredMethods()) {
            must(hidden(m) || Modifier.isPublic(m.getModifiers()), "rule 1: " + m);
            must(!hidden(m) || !names.contains(m.getName()), "rule 1: " + m);
        }
        for (Field f : ProofHall.class.getDeclaredFields()) {
            must(hidden(f), "rule 1: " + f);
        }
    }

    private static boolean hidden(Member m) {
        return Modifier.isPrivate(m.getModifiers());
    }

    private static void classes() {
        Class<?>[] inside = ProofHall.class.getDeclaredClasses();
        must(inside.length + 1 <= 12, "rule 11: " + (inside.length + 1) + " classes");
        for (Class<?> c : inside) {
            int fields = 0;
            must(Modifier.isStatic(c.getModifiers()), "rule 1: " + c + " is static");
            for (Field f : c.getDeclaredFields()) {
                fields += Modifier.isStatic(f.getModifiers()) ? 0 : 1;
            }
            must(fields <= 22, "rule 11: " + c + " has " + fields + " fields");
            statics(c);
        }
        statics(ProofHall.class);
    }

    private static void statics(Class<?> c) {
        for (Field f : c.getDeclaredFields()) {
            if (Modifier.isStatic(f.getModifiers())) {
                must(Modifier.isFinal(f.getModifiers()), "rule 5: " + f);
                must(f.getType() == int.class || f.getType() == long.class || f.getType() == int[].class, "rule 5: " + f);
            }
        }
        for (Method m : c.getDeclaredMethods()) {
            must(m.getParameterCount() <= 7, "rule 11: " + m);
        }
    }

    /** All that an object holds, against what a run may have; no call makes more. */
    private static void room() {
        ProofHall hall = Hall.with("input a:8; var x:8; x = a * a; assert x != 77;");
        long before = Inside.elements(hall);
        must(before < 700_000, "the room: " + before + " elements");
        hall.fails();
        hall.greatest(0);
        hall.ends();
        Hall.feed(hall, "input a:8; var x:8; x = a / a;");
        hall.build();
        hall.run();
        long after = Inside.elements(hall);
        must(after == before, "the room grows from " + before + " to " + after);
    }

    /** Who calls whom, as javap tells it; none calls itself, and no chain is longer than eight. */
    private static void callDepth() {
        ToolProvider javap = ToolProvider.findFirst("javap").orElse(null);
        must(javap != null, "rule 11: no javap to tell who calls whom");
        File where = new File(ProofHall.class.getProtectionDomain().getCodeSource().getLocation().getPath());
        Map<String, Set<String>> calls = new HashMap<>();
        for (File f : where.listFiles()) {
            if (javap != null && f.getName().matches("ProofHall(\\$.*)?\\.class")) {
                StringWriter told = new StringWriter();
                javap.run(new PrintWriter(told), new PrintWriter(told), "-p", "-c", f.getPath());
                readCalls(f.getName().replace(".class", ""), told.toString(), calls);
            }
        }
        must(calls.size() > 100, "rule 11: " + calls.size() + " methods");
        for (String method : calls.keySet()) {
            must(depth(method, calls, 0) <= 8, "rule 11: too deep from " + method);
        }
    }

    private static void readCalls(String name, String told, Map<String, Set<String>> calls) {
        Pattern head = Pattern.compile("^  [^ ].*?([\\w$.]+)\\(.*\\)( throws .*)?;$");
        Pattern call = Pattern.compile("// Method (?:([\\w$]+)\\.)?(\\w+):");
        Set<String> mine = new TreeSet<>();
        for (String line : told.split("\n")) {
            Matcher h = head.matcher(line);
            Matcher c = call.matcher(line);
            if (h.find()) {
                mine = calls.computeIfAbsent(name + "." + h.group(1), k -> new TreeSet<>());
            } else if (c.find()) {
                mine.add((c.group(1) == null ? name : c.group(1)) + "." + c.group(2));
            }
        }
    }

    private static int depth(String method, Map<String, Set<String>> calls, int above) {
        int deepest = 0;
        if (above <= 20 && calls.containsKey(method)) {
            for (String next : calls.get(method)) {
                deepest = Math.max(deepest, depth(next, calls, above + 1));
            }
            return deepest + 1;
        }
        return above > 20 ? 99 : 0;
    }

    private static void source(String text) {
        String code = text.replaceAll("(?s)/\\*.*?\\*/", "").replaceAll("//[^\n]*", "").replaceAll("\"[^\"]*\"", "\"\"");
        for (Matcher m = Pattern.compile("import ([^;]*);").matcher(code); m.find();) {
            must(m.group(1).equals("java.util.Arrays") || m.group(1).equals("java.util.NoSuchElementException"),
                "rule 4: import " + m.group(1));
        }
        String[] never = {"->", "::", "synchronized", "finally", "\\btry\\b", "\\bassert\\b", "\\bgetMessage\\b",
            "static \\{", "\\bdouble\\b", "\\bfloat\\b", "Exact\\b", "\\bpackage\\b", "\\bThread\\b", "\\bequals\\b",
            "\\bhashCode\\b", "\\btoString\\b", "System\\.(?!arraycopy)", "Math\\.(?!min|max)", "Arrays\\.(?!fill)",
            "while \\(true\\)", "for \\(;;\\)"};
        for (String s : never) {
            Matcher m = Pattern.compile(s).matcher(code);
            must(!m.find(), "the source has " + s);
        }
        for (String line : code.split("\n")) {
            boolean makes = line.contains("new ");
            must(!makes || line.contains("throw new") || line.matches("\\s*(private |final )+.*")
                || line.contains("words = new long[]"), "rule 12: " + line.trim());
        }
        methods(code);
    }

    private static void methods(String code) {
        String[] lines = code.split("\n");
        int start = -1;
        String indent = "";
        for (int i = 0; i < lines.length; i++) {
            Matcher m = Pattern.compile("^(    |        )\\S[^=;]*\\(.*\\{$").matcher(lines[i]);
            if (m.find()) {
                start = i;
                indent = m.group(1);
            }
            if (start >= 0 && lines[i].equals(indent + "}")) {
                must(i - start <= 60, "rule 11: " + (i - start) + " lines: " + lines[start].trim());
                start = -1;
            }
        }
    }
}
