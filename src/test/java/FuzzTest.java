import java.util.Random;

/** Holds the program against the reference, call by call, over programs written by chance. */
public final class FuzzTest {
    private static String text = "";

    private static void same(String call, java.util.function.IntSupplier got, java.util.function.IntSupplier want) {
        Hall.same(call + " of " + text, got, want);
    }

    private static void feed(ProofHall hall, Reference reference) {
        byte[] bytes = Hall.bytes(text);
        for (int i = 0; i < bytes.length; i += 20) {
            int[] n = Hall.five(bytes, i);
            same("feed", () -> hall.feed(n[0], n[1], n[2], n[3], n[4]),
                () -> reference.feed(n[0], n[1], n[2], n[3], n[4]));
        }
        int rest = (20 - bytes.length % 20) % 20;
        same("end", () -> hall.end(rest), () -> reference.end(rest));
    }

    private static void counts(ProofHall hall, Reference reference) {
        for (int i = -1; i < 11; i++) {
            int what = i;
            same("count(" + what + ")", () -> hall.count(what), () -> reference.count(what));
        }
    }

    private static void witnesses(ProofHall hall, Reference reference) {
        for (int i = 0; i < reference.count(3); i++) {
            int what = i;
            same("witness(" + what + ")", () -> hall.witness(what), () -> reference.witness(what));
        }
        same("count(8)", () -> hall.count(8), () -> reference.count(8));
    }

    private static void question(ProofHall hall, Reference reference, Random random) {
        int v = random.nextInt(Math.max(1, reference.count(4)) + 1) - (random.nextInt(9) == 0 ? 1 : 0);
        int w = random.nextInt(Math.max(1, reference.count(4)));
        int k = random.nextInt(Math.max(1, reference.count(5)) + 1) - (random.nextInt(9) == 0 ? 1 : 0);
        int x = random.nextInt(6) == 0 ? random.nextInt() : random.nextInt(random.nextBoolean() ? 256 : 8);
        switch (random.nextInt(10)) {
            case 0:
                same("fails", hall::fails, reference::fails);
                break;
            case 1:
                same("failsAt " + k, () -> hall.failsAt(k), () -> reference.failsAt(k));
                break;
            case 2:
                same("least " + v, () -> hall.least(v), () -> reference.least(v));
                break;
            case 3:
                same("greatest " + v, () -> hall.greatest(v), () -> reference.greatest(v));
                break;
            case 4:
                same("differ " + v + " " + w, () -> hall.differ(v, w), () -> reference.differ(v, w));
                break;
            case 5:
                same("can " + v + " " + x, () -> hall.can(v, x), () -> reference.can(v, x));
                break;
            case 6:
                same("ends", hall::ends, reference::ends);
                break;
            case 7:
                same("set", () -> Hall.nothing(() -> hall.set(k, x)), () -> Hall.nothing(() -> reference.set(k, x)));
                break;
            default:
                same("take", () -> Hall.nothing(hall::take), () -> Hall.nothing(reference::take));
                same("run", hall::run, reference::run);
                same("value " + v, () -> hall.value(v), () -> reference.value(v));
                break;
        }
        witnesses(hall, reference);
    }

    /** Arguments, if any: how many objects, the seed, and 'heavy' for much arithmetic, 'full' for long texts. */
    public static void main(String[] args) {
        if (args.length > 2 && args[2].equals("full")) {
            goFull(Integer.parseInt(args[0]), Long.parseLong(args[1]));
        } else if (args.length > 0) {
            go(Integer.parseInt(args[0]), Long.parseLong(args[1]), args.length > 2);
        } else {
            go(300, 1, false);
            go(40, 2, true);
            goDeep(1500, 3);
            goFull(12, 4);
        }
        Hall.finish();
    }

    private static void go(int objects, long seed, boolean heavy) {
        Random random = new Random(seed);
        Programs programs = new Programs(seed, heavy);
        for (int n = 0; n < objects; n++) {
            ProofHall hall = new ProofHall();
            Reference reference = new Reference();
            for (int round = 0; round < 4; round++) {
                text = random.nextInt(4) == 0 ? programs.spoiled() : programs.program();
                if (text.length() > 1200) {
                    continue;
                }
                feed(hall, reference);
                same("build", hall::build, reference::build);
                counts(hall, reference);
                for (int q = 0; q < 12; q++) {
                    question(hall, reference, random);
                }
                counts(hall, reference);
            }
        }
    }

    private static void goFull(int objects, long seed) {
        Programs programs = new Programs(seed, false);
        Random random = new Random(seed);
        for (int n = 0; n < objects; n++) {
            text = programs.full();
            ProofHall hall = new ProofHall();
            Reference reference = new Reference();
            Hall.feed(hall, text);
            reference.feedAll(text);
            same("build", hall::build, reference::build);
            same("count(6)", () -> hall.count(6), () -> reference.count(6));
            for (int q = 0; q < 12; q++) {
                question(hall, reference, random);
                same("count(9)", () -> hall.count(9), () -> 0);
            }
        }
    }

    private static void goDeep(int objects, long seed) {
        Programs programs = new Programs(seed, false);
        for (int n = 0; n < objects; n++) {
            ProofHall hall = new ProofHall();
            Reference reference = new Reference();
            text = programs.deep();
            feed(hall, reference);
            same("build", hall::build, reference::build);
            same("count(1)", () -> hall.count(1), () -> reference.count(1));
            same("count(2)", () -> hall.count(2), () -> reference.count(2));
            same("count(6)", () -> hall.count(6), () -> reference.count(6));
        }
    }
}
