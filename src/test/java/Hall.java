import java.nio.charset.StandardCharsets;
import java.util.NoSuchElementException;
import java.util.function.IntSupplier;

/** What the tests share: feeding a text, and comparing what a call does with what is due. */
final class Hall {
    /** Stands for an exception among the answers; all four are below any answer. */
    static final long REFUSED = Long.MIN_VALUE;
    static final long MISSING = Long.MIN_VALUE + 1;
    static final long BEYOND = Long.MIN_VALUE + 2;
    static final long BAD = Long.MIN_VALUE + 3;

    private static int wrong = 0;
    private static long checked = 0;
    private static int sentences = 0;
    private static String sentence = "";

    private Hall() {
    }

    /** The five numbers of the twenty bytes from the given one on; behind the text stand zeros. */
    static int[] five(byte[] bytes, int from) {
        int[] five = new int[5];
        for (int j = 0; j < 20; j++) {
            int b = from + j < bytes.length ? bytes[from + j] & 255 : 0;
            five[j / 4] = five[j / 4] << 8 | b;
        }
        return five;
    }

    static byte[] bytes(String text) {
        return text.getBytes(StandardCharsets.ISO_8859_1);
    }

    static void feed(ProofHall hall, String text) {
        byte[] bytes = bytes(text);
        for (int i = 0; i < bytes.length; i += 20) {
            int[] n = five(bytes, i);
            if (i + 20 > 4096 - 4096 % 20 && bytes.length > 4080) {
                // The last bytes of a full text: some before them go and come again.
                hall.end(20 - (bytes.length - i));
                n = five(bytes, bytes.length - 20);
                hall.feed(n[0], n[1], n[2], n[3], n[4]);
                return;
            }
            hall.feed(n[0], n[1], n[2], n[3], n[4]);
        }
        hall.end((20 - bytes.length % 20) % 20);
    }

    /** A new object with the program built. */
    static ProofHall with(String text) {
        ProofHall hall = new ProofHall();
        feed(hall, text);
        hall.build();
        return hall;
    }

    static long outcome(IntSupplier call) {
        try {
            return call.getAsInt();
        } catch (IllegalStateException e) {
            return REFUSED;
        } catch (NoSuchElementException e) {
            return MISSING;
        } catch (IndexOutOfBoundsException e) {
            return e.getClass() == IndexOutOfBoundsException.class ? BEYOND : Long.MAX_VALUE;
        } catch (IllegalArgumentException e) {
            return BAD;
        }
    }

    static int nothing(Runnable call) {
        call.run();
        return 0;
    }

    private static String told(long answer) {
        return answer == REFUSED ? "IllegalStateException" : answer == MISSING ? "NoSuchElementException"
            : answer == BEYOND ? "IndexOutOfBoundsException" : answer == BAD ? "IllegalArgumentException"
            : Long.toString(answer);
    }

    static void due(String what, IntSupplier call, long want) {
        long got = outcome(call);
        checked++;
        if (got != want) {
            wrong++;
            System.out.println(sentence + what + ": answered " + told(got) + ", due is " + told(want));
        }
    }

    /** The test of one sentence of the document. */
    static void sentence(String words, Runnable test) {
        sentence = "\"" + words + "\": ";
        sentences++;
        test.run();
        sentence = "";
    }

    private static String shown(String text) {
        return text.length() > 90 ? text.substring(0, 50) + " .. " + text.substring(text.length() - 30) : text;
    }

    /** The text has such a fault there, and is refused. */
    static void fault(String text, int kind, int where) {
        ProofHall hall = new ProofHall();
        feed(hall, text);
        due("build of " + shown(text), hall::build, REFUSED);
        due("fault of " + shown(text), () -> hall.count(1), kind);
        due("where in " + shown(text), () -> hall.count(2), where);
    }

    /** The text has a fault where the $ stands, which is none of its bytes. */
    static void faultAt(String text, int kind) {
        int at = text.indexOf('$');
        fault(text.substring(0, at) + text.substring(at + 1), kind, at);
    }

    static void good(String text) {
        ProofHall hall = new ProofHall();
        feed(hall, text);
        due("build of " + shown(text), () -> Math.min(0, hall.build()), 0);
        due("no fault in " + shown(text), () -> hall.count(1), 0);
        due("nowhere in " + shown(text), () -> hall.count(2), -1);
    }

    static void same(String what, IntSupplier call, IntSupplier reference) {
        due(what, call, outcome(reference));
    }

    static void finish() {
        System.out.println((sentences > 0 ? sentences + " sentences, " : "") + checked + " answers looked at, " + wrong + " wrong");
        if (wrong != 0 || checked == 0) {
            System.exit(1);
        }
    }
}
