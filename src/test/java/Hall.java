import java.nio.charset.StandardCharsets;
import java.util.ArrayList;
import java.util.List;
import java.util.NoSuchElementException;
import java.util.function.IntSupplier;

/** What the tests share: feeding a text, and comparing what a call does with what is due. */
final class Hall {
    /** Stands for an exception among the answers; all of them are below any answer. */
    static final long REFUSED = Long.MIN_VALUE;
    static final long MISSING = Long.MIN_VALUE + 1;
    static final long BEYOND = Long.MIN_VALUE + 2;
    static final long BAD = Long.MIN_VALUE + 3;
    static final long FOREIGN = Long.MIN_VALUE + 4;

    private static int wrong = 0;
    private static long checked = 0;
    private static final List<String> WORDS = new ArrayList<>();
    private static String heading = "";
    private static String sentence = "";

    private Hall() {
    }

    /** The five numbers of the twenty bytes from the given one on; behind the text stand zeros. */
    static int[] five(byte[] bytes, int from) {
        int[] five = new int[5];
        for (int j = 0; j < 20; j++) {
            int b = from + j < bytes.length ? bytes[from + j] & 255 : 0;
            five[j / 4] = five[j / 4] << 8 | b;
        }
        return five;
    }

    static byte[] bytes(String text) {
        return text.getBytes(StandardCharsets.ISO_8859_1);
    }

    static void feed(ProofHall hall, String text) {
        byte[] bytes = bytes(text);
        for (int i = 0; i < bytes.length; i += 20) {
            int[] n = five(bytes, i);
            if (i + 20 > 4096 - 4096 % 20 && bytes.length > 4080) {
                // The last bytes of a full text: some before them go and come again.
                hall.end(20 - (bytes.length - i));
                n = five(bytes, bytes.length - 20);
                hall.feed(n[0], n[1], n[2], n[3], n[4]);
                return;
            }
            hall.feed(n[0], n[1], n[2], n[3], n[4]);
        }
        hall.end((20 - bytes.length % 20) % 20);
    }

    /** A new object with the program built. */
    static ProofHall with(String text) {
        ProofHall hall = new ProofHall();
        feed(hall, text);
        hall.build();
        return hall;
    }

    /** What a call answers, or which of the four exceptions it throws; no other will do, nor one that goes for it. */
    static long outcome(IntSupplier call) {
        try {
            return call.getAsInt();
        } catch (RuntimeException e) {
            Class<?> kind = e.getClass();
            return kind == IllegalStateException.class ? REFUSED : kind == NoSuchElementException.class ? MISSING
                : kind == IndexOutOfBoundsException.class ? BEYOND : kind == IllegalArgumentException.class ? BAD : FOREIGN;
        }
    }

    static int nothing(Runnable call) {
        call.run();
        return 0;
    }

    private static String told(long answer) {
        return answer == REFUSED ? "IllegalStateException" : answer == MISSING ? "NoSuchElementException"
            : answer == BEYOND ? "IndexOutOfBoundsException" : answer == BAD ? "IllegalArgumentException"
            : answer == FOREIGN ? "an exception of no such kind"
            : Long.toString(answer);
    }

    static void due(String what, IntSupplier call, long want) {
        long got = outcome(call);
        checked++;
        if (got != want) {
            wrong++;
            System.out.println(sentence + what + ": answered " + told(got) + ", due is " + told(want));
        }
    }

    /** The document's headings, under which its sentences are told. */
    static void heading(String words) {
        heading = words.replace("#", "").strip() + ": ";
        WORDS.add(words);
    }

    /** The tests of one sentence of the document, or of a part of it. */
    static void sentence(String words, Runnable... tests) {
        sentence = heading + "\"" + words + "\": ";
        WORDS.add(words);
        for (Runnable test : tests) {
            try {
                test.run();
            } catch (RuntimeException e) {
                wrong++;
                System.out.println(sentence + "answered no more, but threw " + e + " at " + e.getStackTrace()[0]);
            }
        }
        sentence = "";
    }

    /** All headings and sentences so far, in their order. */
    static List<String> words() {
        return WORDS;
    }

    /** What isn't a call's answer. */
    static void must(String what, boolean so) {
        due(what, () -> so ? 1 : 0, 1);
    }

    private static String shown(String text) {
        return text.length() > 90 ? text.substring(0, 50) + " .. " + text.substring(text.length() - 30) : text;
    }

    /** The text has such a fault there, and is refused. */
    static void fault(String text, int kind, int where) {
        ProofHall hall = new ProofHall();
        feed(hall, text);
        due("build of " + shown(text), hall::build, REFUSED);
        due("fault of " + shown(text), () -> hall.count(1), kind);
        due("where in " + shown(text), () -> hall.count(2), where);
    }

    /** The text has a fault where the $ stands, which is none of its bytes. */
    static void faultAt(String text, int kind) {
        int at = text.indexOf('$');
        fault(text.substring(0, at) + text.substring(at + 1), kind, at);
    }

    static void good(String text) {
        ProofHall hall = new ProofHall();
        feed(hall, text);
        due("build of " + shown(text), () -> Math.min(0, hall.build()), 0);
        due("no fault in " + shown(text), () -> hall.count(1), 0);
        due("nowhere in " + shown(text), () -> hall.count(2), -1);
    }

    static void same(String what, IntSupplier call, IntSupplier reference) {
        due(what, call, outcome(reference));
    }

    static void finish() {
        System.out.println((WORDS.isEmpty() ? "" : WORDS.size() + " headings and sentences, ") + checked + " answers looked at, "
            + wrong + " wrong");
        if (wrong != 0 || checked == 0) {
            System.exit(1);
        }
    }
}
