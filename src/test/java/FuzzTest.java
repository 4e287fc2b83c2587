import java.util.NoSuchElementException;
import java.util.Random;
import java.util.function.IntSupplier;

/** Holds the program against the reference, call by call, over programs written by chance. */
public final class FuzzTest {
    private static int wrong = 0;
    private static long calls = 0;
    private static String text = "";

    private static long outcome(IntSupplier call) {
        try {
            return call.getAsInt();
        } catch (IllegalStateException e) {
            return Long.MIN_VALUE;
        } catch (NoSuchElementException e) {
            return Long.MIN_VALUE + 1;
        } catch (IndexOutOfBoundsException e) {
            return Long.MIN_VALUE + 2;
        } catch (IllegalArgumentException e) {
            return Long.MIN_VALUE + 3;
        }
    }

    private static void same(String call, IntSupplier got, IntSupplier want) {
        long g = outcome(got);
        long w = outcome(want);
        calls++;
        if (g != w) {
            wrong++;
            System.out.println(call + " answered " + g + ", due is " + w + " for: " + text);
        }
    }

    private static void feed(ProofHall hall, Reference reference, String s) {
        byte[] bytes = s.getBytes(java.nio.charset.StandardCharsets.ISO_8859_1);
        int n = (bytes.length + 19) / 20;
        for (int i = 0; i < n; i++) {
            int[] five = new int[5];
            for (int j = 0; j < 20; j++) {
                int at = i * 20 + j;
                five[j / 4] = five[j / 4] << 8 | (at < bytes.length ? bytes[at] & 255 : 0);
            }
            same("feed", () -> hall.feed(five[0], five[1], five[2], five[3], five[4]),
                () -> reference.feed(five[0], five[1], five[2], five[3], five[4]));
        }
        int rest = n * 20 - bytes.length;
        same("end", () -> hall.end(rest), () -> reference.end(rest));
    }

    private static void counts(ProofHall hall, Reference reference) {
        for (int i = -1; i < 11; i++) {
            int what = i;
            same("count(" + what + ")", () -> hall.count(what), () -> reference.count(what));
        }
    }

    private static void witnesses(ProofHall hall, Reference reference) {
        for (int i = 0; i < reference.count(3); i++) {
            int what = i;
            same("witness(" + what + ")", () -> hall.witness(what), () -> reference.witness(what));
        }
        same("count(8)", () -> hall.count(8), () -> reference.count(8));
    }

    private static int nothing(Runnable call) {
        call.run();
        return 0;
    }

    private static void question(ProofHall hall, Reference reference, Random random) {
        int v = random.nextInt(Math.max(1, reference.count(4)) + 1) - (random.nextInt(9) == 0 ? 1 : 0);
        int w = random.nextInt(Math.max(1, reference.count(4)));
        int k = random.nextInt(Math.max(1, reference.count(5)) + 1) - (random.nextInt(9) == 0 ? 1 : 0);
        int x = random.nextInt(6) == 0 ? random.nextInt() : random.nextInt(random.nextBoolean() ? 256 : 8);
        switch (random.nextInt(10)) {
            case 0:
                same("fails", hall::fails, reference::fails);
                break;
            case 1:
                same("failsAt " + k, () -> hall.failsAt(k), () -> reference.failsAt(k));
                break;
            case 2:
                same("least " + v, () -> hall.least(v), () -> reference.least(v));
                break;
            case 3:
                same("greatest " + v, () -> hall.greatest(v), () -> reference.greatest(v));
                break;
            case 4:
                same("differ " + v + " " + w, () -> hall.differ(v, w), () -> reference.differ(v, w));
                break;
            case 5:
                same("can " + v + " " + x, () -> hall.can(v, x), () -> reference.can(v, x));
                break;
            case 6:
                same("ends", hall::ends, reference::ends);
                break;
            case 7:
                same("set", () -> nothing(() -> hall.set(k, x)), () -> nothing(() -> reference.set(k, x)));
                break;
            default:
                same("take", () -> nothing(hall::take), () -> nothing(reference::take));
                same("run", hall::run, reference::run);
                same("value " + v, () -> hall.value(v), () -> reference.value(v));
                break;
        }
        witnesses(hall, reference);
    }

    public static void main(String[] args) {
        int objects = args.length > 0 ? Integer.parseInt(args[0]) : 300;
        long seed = args.length > 1 ? Long.parseLong(args[1]) : 1;
        boolean heavy = args.length > 2;
        Random random = new Random(seed);
        Programs programs = new Programs(seed, heavy);
        int built = 0;
        for (int n = 0; n < objects; n++) {
            ProofHall hall = new ProofHall();
            Reference reference = new Reference();
            for (int round = 0; round < 4; round++) {
                text = random.nextInt(4) == 0 ? programs.spoiled() : programs.program();
                if (text.length() > 4000) {
                    continue;
                }
                feed(hall, reference, text);
                int before = reference.count(1);
                same("build", hall::build, reference::build);
                built += reference.count(6) > 0 ? 1 : 0;
                counts(hall, reference);
                for (int q = 0; q < 12; q++) {
                    long t = System.nanoTime();
                    question(hall, reference, random);
                }
                counts(hall, reference);
            }
        }
        System.out.println(calls + " calls over " + built + " programs built, " + wrong + " wrong");
        if (wrong != 0) {
            System.exit(1);
        }
    }
}
