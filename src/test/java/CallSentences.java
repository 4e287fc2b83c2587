import java.util.ArrayList;
import java.util.List;
import java.util.function.IntSupplier;

/**
 * Tests of what the document says of the promises, of the WITNESS and of refused calls, at each
 * boundary and on both sides of it.
 */
final class CallSentences {
    private static final int BLANKS = 0x20202020;

    private static void due(String what, IntSupplier call, long want) {
        Hall.due(what, call, want);
    }

    private static void set(ProofHall hall, int i, int x, long want) {
        due("set(" + i + ", " + x + ")", () -> Hall.nothing(() -> hall.set(i, x)), want);
    }

    private static void take(ProofHall hall, long want) {
        due("take", () -> Hall.nothing(hall::take), want);
    }

    /** What calls tell without a change; few of them, as an object has 512. */
    private static List<Long> state(ProofHall hall) {
        List<Long> all = new ArrayList<>();
        for (int i = 0; i <= 9; i++) {
            int what = i;
            all.add(Hall.outcome(() -> hall.count(what)));
        }
        for (int i = 0; i < 2; i++) {
            int which = i;
            all.add(Hall.outcome(() -> hall.witness(which)));
            all.add(Hall.outcome(() -> hall.value(which)));
        }
        return all;
    }

    /** The call must throw what is told, and leave all as it was. */
    private static void refuses(String what, ProofHall hall, IntSupplier call, long want) {
        List<Long> before = state(hall);
        due(what, call, want);
        boolean same = before.equals(state(hall));
        due(what + " changes nothing", () -> same ? 1 : 0, 1);
    }

    /** The questions of the first line, of one small program. */
    static void allQuestions() {
        ProofHall hall = Hall.with("input a:4;input b:4;var x:8;x=a;x=x*b;assert x!=143;");
        due("whether an assertion can fail", hall::fails, 1);
        due("for which least a", () -> hall.witness(0), 11);
        due("for which least b", () -> hall.witness(1), 13);
        due("which values x can have: the least", () -> hall.least(0), 0);
        due("for which least a", () -> hall.witness(0), 0);
        due("which values x can have: the greatest", () -> hall.greatest(0), 225);
        due("for which least a", () -> hall.witness(0), 15);
        due("which values x can have: 142", () -> hall.can(0, 142), 0);
        due("which values x can have: 143", () -> hall.can(0, 143), 0);
        due("which values x can have: 144", () -> hall.can(0, 144), 1);
        due("for which least a", () -> hall.witness(0), 12);
        due("for which least b", () -> hall.witness(1), 12);
    }

    /** Their answers are free, but a call throws nothing else than the document's exceptions, and ends. */
    static void laterCalls() {
        ProofHall hall = Hall.with("input a:4;var x:4;x=a;assert a!=9;");
        IntSupplier[] calls = {hall::fails, () -> hall.failsAt(0), () -> hall.least(0), () -> hall.greatest(0),
            () -> hall.differ(0, 0), () -> hall.can(0, 3), hall::ends, () -> hall.witness(0), hall::run, () -> hall.value(0),
            () -> hall.count(9), () -> hall.end(0), () -> hall.feed(BLANKS, BLANKS, BLANKS, BLANKS, BLANKS),
            () -> Hall.nothing(() -> hall.set(0, 5)), () -> Hall.nothing(hall::take), () -> hall.value(-1)};
        for (int n = 0; n < 5000; n++) {
            IntSupplier call = calls[n % calls.length];
            due("call " + n, () -> Hall.outcome(call) == Hall.FOREIGN ? 0 : 1, 1);
        }
        due("build", () -> Hall.outcome(hall::build) == Hall.FOREIGN ? 0 : 1, 1);
    }

    /** The 511th and 512th call answer as the first ones. */
    static void manyCalls() {
        String text = "input a:8;input b:4;var x:8;x=a*b+a;assert x!=77;";
        ProofHall hall = Hall.with(text);
        int calls = (text.length() + 19) / 20 + 2;
        for (; calls + 8 <= 508; calls += 8) {
            due("fails, call " + calls, hall::fails, 1);
            due("witness", () -> hall.witness(0), 7);
            due("witness", () -> hall.witness(1), 10);
            due("least", () -> hall.least(0), 0);
            due("greatest", () -> hall.greatest(0), 255);
            due("ends", hall::ends, 20);
            due("run", hall::run, 0);
            due("count", () -> hall.count(9), 0);
        }
        for (; calls < 509; calls++) {
            due("witness behind ends", () -> hall.witness(0), Hall.MISSING);
        }
        due("the 510th", hall::fails, 1);
        due("the 511th", () -> hall.witness(0), 7);
        due("the 512th", () -> hall.witness(1), 10);
        ProofHall builds = new ProofHall();
        for (int n = 0; n < 102; n++) {
            int x = n;
            Hall.feed(builds, String.format("var x:8;x=%3d;%6s", n, ""));
            due("build " + n, builds::build, 0);
            due("run " + n, builds::run, 0);
            due("value " + n, () -> builds.value(0), x);
        }
    }

    static void firstHighest() {
        ProofHall hall = Hall.with("input a:2;input b:3;input c:7;assert !(a&&c>100||b==5&&c==3||b==6);");
        due("fails", hall::fails, 1);
        due("a", () -> hall.witness(0), 0);
        due("b", () -> hall.witness(1), 5);
        due("c", () -> hall.witness(2), 3);
        ProofHall other = Hall.with("input a:2;input b:3;input c:7;assert !(a==1&&c>100||a==2);");
        due("fails", other::fails, 1);
        due("a", () -> other.witness(0), 1);
        due("b", () -> other.witness(1), 0);
        due("c", () -> other.witness(2), 101);
        ProofHall order = Hall.with("input c:4;var x:8;input a:8;x=1;assert 1;assert c<15||a<255;");
        due("fails at 1", () -> order.failsAt(1), 1);
        due("c", () -> order.witness(0), 15);
        due("a", () -> order.witness(1), 255);
    }

    /** Of 4096: the first, the second, the last but one and the last, and of two the lesser. */
    static void leastNumber() {
        int[] numbers = {0, 1, 2, 15, 16, 17, 2047, 2048, 4094, 4095};
        for (int n : numbers) {
            String is = "a==" + (n >> 4) + "&&b==" + (n & 15);
            ProofHall hall = Hall.with("input a:8;input b:4;var x:1;x=" + is + ";assert !x;");
            due("fails with " + n, hall::fails, 1);
            due("a of " + n, () -> hall.witness(0), n >> 4);
            due("b of " + n, () -> hall.witness(1), n & 15);
            due("no other", () -> hall.can(0, 1), 0);
            ProofHall above = Hall.with("input a:8;input b:4;var x:1;x=a>" + (n >> 4) + "||a==" + (n >> 4) + "&&b>="
                + (n & 15) + ";");
            due("from " + n, () -> above.greatest(0), 1);
            due("a from " + n, () -> above.witness(0), n >> 4);
            due("b from " + n, () -> above.witness(1), n & 15);
            due("0 below " + n, () -> above.can(0, 0), n == 0 ? 0 : 1);
            due("a below " + n, () -> above.witness(0), n == 0 ? Hall.MISSING : 0);
        }
        ProofHall two = Hall.with("input a:8;input b:4;assert !(a==200&&b==3||a==3&&b==15);");
        due("two", two::fails, 1);
        due("the lesser one's a", () -> two.witness(0), 3);
        due("the lesser one's b", () -> two.witness(1), 15);
    }

    /** Each question has a RUN of its own that is asked for, and the least of all of them may be none. */
    static void asAskedFor() {
        ProofHall hall = Hall.with("input a:4;var x:4;var y:4;x=a;y=3;assume a>1;assert a!=4;assert a!=5;if(a==6)y=x;");
        due("fails", hall::fails, 1);
        due("the least that FAILS", () -> hall.witness(0), 4);
        due("fails at 1", () -> hall.failsAt(1), 1);
        due("the least that FAILS there", () -> hall.witness(0), 5);
        due("least", () -> hall.least(0), 2);
        due("the least that ENDS so", () -> hall.witness(0), 2);
        due("greatest of y", () -> hall.greatest(1), 6);
        due("the least that ENDS so", () -> hall.witness(0), 6);
        due("x is 7", () -> hall.can(0, 7), 1);
        due("the least that ENDS so", () -> hall.witness(0), 7);
        due("x isn't y", () -> hall.differ(0, 1), 1);
        due("the least that ENDS so", () -> hall.witness(0), 2);
        due("x is 0 for one that is OUT", () -> hall.can(0, 0), 0);
        due("x is 4 for one that FAILS", () -> hall.can(0, 4), 0);
        due("take", () -> hall.can(1, 6), 1);
        take(hall, 0);
        due("the RUN is as asked for", hall::run, 0);
        due("the RUN is as asked for", () -> hall.value(1), 6);
    }

    static void withoutInputs() {
        ProofHall hall = Hall.with("var x:4;var y:4;x=9;if(y)assert 0;");
        due("no WITNESS yet", () -> hall.count(8), 0);
        take(hall, Hall.MISSING);
        due("can", () -> hall.can(0, 9), 1);
        due("a WITNESS", () -> hall.count(8), 1);
        due("of no INPUTS", () -> hall.witness(0), Hall.MISSING);
        take(hall, 0);
        due("it stays", () -> hall.count(8), 1);
        due("can't", () -> hall.can(0, 8), 0);
        due("none", () -> hall.count(8), 0);
        take(hall, Hall.MISSING);
        due("differ", () -> hall.differ(0, 1), 1);
        due("a WITNESS", () -> hall.count(8), 1);
        due("fails", hall::fails, 0);
        due("none", () -> hall.count(8), 0);
        due("least", () -> hall.least(1), 0);
        due("a WITNESS", () -> hall.count(8), 1);
        due("ends", hall::ends, 1);
        due("none", () -> hall.count(8), 0);
    }

    /** Behind a question with a WITNESS one that has none: each kind of them. */
    static void goneToo() {
        String text = "input a:4;var x:4;var y:4;x=a;y=a;assert a!=15;assert 1;";
        List<IntSupplier> without = new ArrayList<>();
        ProofHall hall = Hall.with(text);
        without.add(() -> hall.failsAt(1));
        without.add(() -> hall.differ(0, 1));
        without.add(() -> hall.differ(0, 0));
        without.add(() -> hall.can(0, 15));
        without.add(() -> hall.can(0, 16));
        without.add(() -> hall.can(0, -1));
        for (IntSupplier question : without) {
            due("a WITNESS", hall::fails, 1);
            due("is there", () -> hall.count(8), 1);
            due("none", question, 0);
            due("is gone", () -> hall.count(8), 0);
            due("is gone", () -> hall.witness(0), Hall.MISSING);
            take(hall, Hall.MISSING);
        }
        due("a WITNESS", hall::fails, 1);
        due("ends", hall::ends, 15);
        due("is gone", () -> hall.witness(0), Hall.MISSING);
        ProofHall never = Hall.with("input a:4;var x:4;x=a;if(a==3)assert 0;assume 0;");
        for (int i = 0; i < 2; i++) {
            boolean least = i == 0;
            due("a WITNESS", never::fails, 1);
            due("of 3", () -> never.witness(0), 3);
            due("none ends", () -> least ? never.least(0) : never.greatest(0), -1);
            due("is gone", () -> never.count(8), 0);
            due("is gone", () -> never.witness(0), Hall.MISSING);
        }
        ProofHall safe = Hall.with("input a:4;var x:4;x=a;assert 1;");
        due("a WITNESS", () -> safe.can(0, 5), 1);
        due("no RUN fails", safe::fails, 0);
        due("is gone", () -> safe.witness(0), Hall.MISSING);
        // A WITNESS takes the place of another.
        due("can be 5", () -> safe.can(0, 5), 1);
        due("can be 7", () -> safe.can(0, 7), 1);
        due("7", () -> safe.witness(0), 7);
    }

    private static Class<?> thrown(Runnable call) {
        try {
            call.run();
            return null;
        } catch (RuntimeException e) {
            return e.getClass();
        }
    }

    static void bad() {
        Hall.must("end(1) of none", thrown(() -> new ProofHall().end(1)) == IllegalArgumentException.class);
        Hall.must("end(-1)", thrown(() -> new ProofHall().end(-1)) == IllegalArgumentException.class);
        Hall.must("end(0)", thrown(() -> new ProofHall().end(0)) == null);
    }

    static void missing() {
        ProofHall hall = Hall.with("");
        Runnable[] calls = {() -> hall.failsAt(0), () -> hall.least(0), () -> hall.greatest(0), () -> hall.differ(0, 0),
            () -> hall.can(0, 0), () -> hall.witness(0), () -> hall.set(0, 0), hall::take, () -> hall.value(0)};
        for (int i = 0; i < calls.length; i++) {
            Hall.must("call " + i, thrown(calls[i]) == java.util.NoSuchElementException.class);
        }
    }

    /** Without a PROGRAM nothing is there that a number could name, so both are due. */
    static void namedFirst() {
        ProofHall hall = new ProofHall();
        Runnable[] calls = {() -> hall.failsAt(-1), () -> hall.least(-1), () -> hall.greatest(12), () -> hall.differ(-1, 12),
            () -> hall.can(-1, 999), () -> hall.witness(-1), () -> hall.set(-1, 0), hall::take, () -> hall.value(-1)};
        for (int i = 0; i < calls.length; i++) {
            Hall.must("call " + i, thrown(calls[i]) == IllegalStateException.class);
        }
        Hall.feed(hall, "assert");
        Hall.must("a FAULT", thrown(hall::build) == IllegalStateException.class);
        for (int i = 0; i < calls.length; i++) {
            Hall.must("behind a FAULT, call " + i, thrown(calls[i]) == IllegalStateException.class);
        }
    }

    private static void refusesAll() {
        int[] args = {Integer.MIN_VALUE, -1, 0, 1, 12, Integer.MAX_VALUE};
        for (int i : args) {
            ProofHall hall = new ProofHall();
            refuses("failsAt " + i, hall, () -> hall.failsAt(i), Hall.REFUSED);
            refuses("least " + i, hall, () -> hall.least(i), Hall.REFUSED);
            refuses("greatest " + i, hall, () -> hall.greatest(i), Hall.REFUSED);
            refuses("differ " + i, hall, () -> hall.differ(i, 0), Hall.REFUSED);
            refuses("differ " + i, hall, () -> hall.differ(0, i), Hall.REFUSED);
            refuses("can " + i, hall, () -> hall.can(i, i), Hall.REFUSED);
            refuses("witness " + i, hall, () -> hall.witness(i), Hall.REFUSED);
            refuses("set " + i, hall, () -> Hall.nothing(() -> hall.set(i, 0)), Hall.REFUSED);
            refuses("value " + i, hall, () -> hall.value(i), Hall.REFUSED);
        }
        ProofHall hall = new ProofHall();
        refuses("fails", hall, hall::fails, Hall.REFUSED);
        refuses("ends", hall, hall::ends, Hall.REFUSED);
        refuses("take", hall, () -> Hall.nothing(hall::take), Hall.REFUSED);
        refuses("run", hall, hall::run, Hall.REFUSED);
    }

    static void noProgram() {
        refusesAll();
        ProofHall spoiled = new ProofHall();
        Hall.feed(spoiled, "var x:1;x=y;");
        due("build", spoiled::build, Hall.REFUSED);
        due("no run behind a fault", spoiled::run, Hall.REFUSED);
        due("no value behind a fault", () -> spoiled.value(0), Hall.REFUSED);
        due("no INPUTS, WORK and so on", () -> spoiled.count(4), 0);
        ProofHall fed = new ProofHall();
        Hall.feed(fed, "assert 0;");
        due("TEXT is no PROGRAM yet", fed::run, Hall.REFUSED);
        due("build", fed::build, 1);
        due("now it is", fed::run, 1);
    }

    static void changesNothing() {
        ProofHall hall = Hall.with("input a:4;input b:2;var x:4;var y:4;x=a;y=b;assert a!=9||b!=2;");
        due("fails", hall::fails, 1);
        set(hall, 0, 7, 0);
        due("run", hall::run, 0);
        Hall.feed(hall, "some text");
        int[] none = {Integer.MIN_VALUE, -1, 1, 2, 3, 12, 32, 256, Integer.MAX_VALUE};
        for (int i : none) {
            refuses("failsAt " + i, hall, () -> hall.failsAt(i), Hall.MISSING);
        }
        ProofHall other = Hall.with("input a:4;input b:2;var x:4;var y:4;x=a;y=b;assert a!=9||b!=2;");
        due("fails", other::fails, 1);
        set(other, 0, 7, 0);
        due("run", other::run, 0);
        int[] few = {-1, 2};
        for (int i : few) {
            refuses("least " + i, other, () -> other.least(i), Hall.MISSING);
            refuses("greatest " + i, other, () -> other.greatest(i), Hall.MISSING);
            refuses("can " + i, other, () -> other.can(i, 7), Hall.MISSING);
            set(other, i, 3, Hall.MISSING);
        }
        refuses("differ", other, () -> other.differ(0, 2), Hall.MISSING);
        due("the WITNESS is as before", () -> other.witness(0), 9);
        due("run", other::run, 0);
        due("the INPUTS are as before", () -> other.value(0), 7);
        due("the INPUTS are as before", () -> other.value(1), 0);
    }

    static void newObject() {
        ProofHall hall = new ProofHall();
        int[] want = {-1, 0, 0, -1, 0, 0, 0, 0, -1, 0, 0, -1};
        for (int i = 0; i < want.length; i++) {
            int what = i - 1;
            due("count(" + what + ")", () -> hall.count(what), want[i]);
        }
        due("no bytes to go", () -> hall.end(1), Hall.BAD);
        due("none", () -> hall.end(0), 0);
        due("run", hall::run, Hall.REFUSED);
    }

    static void twentyBytes() {
        ProofHall hall = new ProofHall();
        // "assume 1;" and "assert 0;" and a blank and a byte of 128 and more, which goes again.
        due("feed", () -> hall.feed(0x61737375, 0x6d652031, 0x3b617373, 0x65727420, 0x303b20ff), 20);
        due("the last byte", () -> hall.end(1), 19);
        due("build", hall::build, 1);
        due("run", hall::run, 1);
        ProofHall order = new ProofHall();
        // "var x:8;x=1+2*3+4*9;"
        due("feed", () -> order.feed(0x76617220, 0x783a383b, 0x783d312b, 0x322a332b, 0x342a393b), 20);
        due("build", order::build, 0);
        due("run", order::run, 0);
        due("1+2*3+4*9", () -> order.value(0), 1 + 2 + 4);
        int[] low = {0, 0x7fffffff, 0x80000000, -1, 0x00ffffff};
        for (int number : low) {
            ProofHall foreign = new ProofHall();
            due("feed", () -> foreign.feed(BLANKS, BLANKS, number, BLANKS, BLANKS), 20);
            due("build", foreign::build, Hall.REFUSED);
            due("where", () -> foreign.count(2), 8);
        }
        for (int i = 0; i < 20; i++) {
            byte[] bytes = Hall.bytes(" ".repeat(20));
            bytes[i] = '@';
            int[] five = Hall.five(bytes, 0);
            ProofHall at = new ProofHall();
            due("feed", () -> at.feed(five[0], five[1], five[2], five[3], five[4]), 20);
            due("build", at::build, Hall.REFUSED);
            int where = i;
            due("byte " + i, () -> at.count(2), where);
        }
    }

    private static int feedBlanks(ProofHall hall) {
        return hall.feed(BLANKS, BLANKS, BLANKS, BLANKS, BLANKS);
    }

    static void tooLong() {
        for (int more = 0; more <= 20; more++) {
            // Of 4060 + more bytes, 20 more are too many if more is above 16.
            ProofHall hall = new ProofHall();
            for (int n = 0; n < 204; n++) {
                feedBlanks(hall);
            }
            int length = 4060 + more;
            due("length", () -> hall.end(4080 - length), length);
            due("20 more than " + length, () -> feedBlanks(hall), length > 4076 ? Hall.BEYOND : length + 20);
            due("length then", () -> hall.count(0), length > 4076 ? length : length + 20);
        }
        ProofHall full = new ProofHall();
        Hall.feed(full, "var x:8;x=1;" + " ".repeat(4096 - 12 - 5) + "x=77;");
        due("full", () -> full.count(0), 4096);
        refuses("20 more", full, () -> full.feed(0, 0, 0, 0, 0), Hall.BEYOND);
        refuses("20 more", full, () -> full.feed(-1, -1, -1, -1, -1), Hall.BEYOND);
        due("one less", () -> full.end(0), 4096);
        due("build", full::build, 0);
        due("TEXT is empty", () -> full.count(0), 0);
        due("run", full::run, 0);
        due("no byte has changed", () -> full.value(0), 77);
        due("there's room again", () -> feedBlanks(full), 20);
    }

    static void feedAnswers() {
        ProofHall hall = new ProofHall();
        for (int n = 1; n <= 204; n++) {
            int length = 20 * n;
            due("feed " + n, () -> feedBlanks(hall), length);
            due("count(0)", () -> hall.count(0), length);
        }
    }

    static void endAnswers() {
        ProofHall hall = new ProofHall();
        for (int n = 0; n < 12; n++) {
            feedBlanks(hall);
        }
        int length = 240;
        for (int n = 0; length - n >= 0; n++) {
            length -= n;
            int go = n;
            int left = length;
            due("end(" + n + ")", () -> hall.end(go), left);
            due("count(0)", () -> hall.count(0), left);
        }
    }

    static void lastGo() {
        ProofHall hall = new ProofHall();
        int[] bad = {Integer.MIN_VALUE, -4097, -20, -1, 1, 20, 4096, Integer.MAX_VALUE};
        for (int n : bad) {
            refuses("end(" + n + ") of none", hall, () -> hall.end(n), Hall.BAD);
        }
        due("end(0) of none", () -> hall.end(0), 0);
        ProofHall some = new ProofHall();
        due("feed", () -> feedBlanks(some), 20);
        refuses("one more than there are", some, () -> some.end(21), Hall.BAD);
        refuses("fewer than none", some, () -> some.end(-1), Hall.BAD);
        refuses("the least int", some, () -> some.end(Integer.MIN_VALUE), Hall.BAD);
        refuses("the greatest int", some, () -> some.end(Integer.MAX_VALUE), Hall.BAD);
        due("none", () -> some.end(0), 20);
        due("one", () -> some.end(1), 19);
        due("all but one", () -> some.end(18), 1);
        refuses("two of one", some, () -> some.end(2), Hall.BAD);
        due("the last", () -> some.end(1), 0);
        due("feed", () -> feedBlanks(some), 20);
        due("all at once", () -> some.end(20), 0);
        ProofHall last = new ProofHall();
        Hall.feed(last, "assert 1;assert 0;xx");
        due("the last two", () -> last.end(2), 18);
        due("build", last::build, 2);
        due("the others stay", last::run, 1);
        due("the others stay", () -> last.count(7), 1);
        ProofHall again = new ProofHall();
        Hall.feed(again, "var x:8;x=1;x=2;");
        due("the last four", () -> again.end(4), 12);
        Hall.feed(again, "");
        due("feed", () -> again.feed(0x783d333b, BLANKS, BLANKS, BLANKS, BLANKS), 32);
        due("build", again::build, 0);
        due("run", again::run, 0);
        due("new ones stand behind those that stayed", () -> again.value(0), 3);
    }

    /** What stands behind TEXT's end in no way goes on with its last TOKEN, nor with its blanks. */
    static void goneBytes() {
        String[] texts = {"", " ", "assert", "assert a", "assert abcdefgh", "assert 2", "assert 255", "assert 1<", "assert 1&",
            "assert 1!", "assert 1=", "assert 1|", "assert 1>", "assert 1 ", "assert 1", "{", "if", "i", "input", "var x:1"};
        String[] gone = {"aaaa", "0000", "9999", "====", "<<<<", ">>>>", "&&&&", "||||", "    ", ";;;;", "}}}}", "@@@@"};
        for (String text : texts) {
            ProofHall plain = new ProofHall();
            Hall.feed(plain, text);
            long answer = Hall.outcome(plain::build);
            for (String more : gone) {
                ProofHall hall = new ProofHall();
                Hall.feed(hall, text + more);
                due("end", () -> hall.end(4), text.length());
                due("'" + text + "' before '" + more + "'", hall::build, answer);
                due("fault of '" + text + "' before '" + more + "'", () -> hall.count(1), plain.count(1));
                due("where in '" + text + "' before '" + more + "'", () -> hall.count(2), plain.count(2));
            }
        }
    }

    static void emptyThen() {
        String[] texts = {"", " ", "assert 0;", "assert", "x=1;", "var x:1;var x:1;", "input a:1;a=1;", "var x:9;",
            "input a:8;input b:8;", "var x:8;while8(x)while8(x)while8(x)x=1;"};
        for (int kind = 0; kind < texts.length; kind++) {
            ProofHall hall = new ProofHall();
            Hall.feed(hall, texts[kind]);
            int fault = Math.max(0, kind - 2);
            due("build of '" + texts[kind] + "'", hall::build, fault > 0 ? Hall.REFUSED : kind == 2 ? 1 : 0);
            due("fault of '" + texts[kind] + "'", () -> hall.count(1), fault);
            due("TEXT behind '" + texts[kind] + "'", () -> hall.count(0), 0);
            due("no byte left", () -> hall.end(1), Hall.BAD);
            due("an empty TEXT is a PROGRAM", hall::build, 0);
            due("which ends", hall::run, 0);
        }
    }

    /** Of PROGRAMS before, nothing counts: neither their INPUTS, VARIABLES, assertions nor STATEMENTS. */
    static void programNow() {
        StringBuilder full = new StringBuilder("input a:8;input b:4;");
        for (char c = 'c'; c <= 'n'; c++) {
            full.append("var ").append(c).append(":8;");
        }
        full.append("c=a+1;assert c;if(b)d=2;else d=1;");
        String[] texts = {full.toString(), "assert 0;", "", full.toString(), "input a:8;input b:4;assume 0;", "x=1;",
            full.toString(), "var x:8;x=x+3;", "while3(0){}", full + "@", full.toString(), "var x:8;x=x+4;", "assert 1;assert 1;"};
        int[] outcomes = {0, 1, 0, 0, 2, 2, 0, 0, 0, 0, 0, 0, 0};
        int[] kinds = {0, 0, 0, 0, 0, 2, 0, 0, 0, 1, 0, 0, 0};
        ProofHall hall = new ProofHall();
        for (int i = 0; i < texts.length; i++) {
            Hall.feed(hall, texts[i]);
            ProofHall alone = new ProofHall();
            Hall.feed(alone, texts[i]);
            long answer = Hall.outcome(alone::build);
            due("build " + i, hall::build, answer);
            due("run " + i, hall::run, outcomes[i]);
            if (kinds[i] == 0) {
                due("run of it alone", alone::run, outcomes[i]);
                for (int what = 3; what <= 9; what++) {
                    int which = what;
                    due("count(" + what + ") of " + i, () -> hall.count(which), alone.count(what));
                }
                due("value of " + i, () -> hall.value(0), Hall.outcome(() -> alone.value(0)));
                due("least of " + i, () -> hall.least(0), Hall.outcome(() -> alone.least(0)));
                due("fails of " + i, hall::fails, alone.fails());
                due("ends of " + i, hall::ends, alone.ends());
            }
        }
    }

    /** Nor what was open where one had a fault. */
    static void behindFaults() {
        String[] open = {"{".repeat(30) + "@", "while1(1)".repeat(29) + "@", "if(1)".repeat(29) + "@", "assert " + "(".repeat(29),
            "assert " + "1||1&&(".repeat(29), "if(1){}else ".repeat(29), "while1(1)".repeat(29) + "{}}"};
        for (String text : open) {
            ProofHall hall = new ProofHall();
            for (int n = 0; n < 4; n++) {
                Hall.feed(hall, text);
                due("build of " + text, hall::build, Hall.REFUSED);
                Hall.feed(hall, "}");
                due("no block is open behind " + text, hall::build, Hall.REFUSED);
                due("at 0", () -> hall.count(2), 0);
                Hall.feed(hall, "else{}");
                due("no if is open behind " + text, hall::build, Hall.REFUSED);
                due("at 0", () -> hall.count(2), 0);
                Hall.feed(hall, "var x:8;while3(x<2)x=x+1;{if(x)x=x+5;}assert x!=7;");
                due("build behind " + text, hall::build, 1);
                due("WORK behind " + text, () -> hall.count(6), 3 * (8 + 8 + 8 + 8) + 8 + 8 + 8 + 8 + 8 + 8);
                due("run behind " + text, hall::run, 1);
                due("value behind " + text, () -> hall.value(0), 7);
                due("fails behind " + text, hall::fails, 1);
            }
        }
    }

    /** Nor how much of it there was: two full ones behind one another. */
    static void behindFull() {
        String[] full = {"assert 1" + "+1".repeat(2035), "{" + "{}".repeat(2035), "if(1){}".repeat(580) + "{",
            "while0(0){" + "assert0;".repeat(505), "assert " + "!".repeat(29) + "1" + "&&!!1".repeat(800)};
        for (String text : full) {
            ProofHall hall = new ProofHall();
            Hall.feed(hall, text);
            due("a full TEXT with a fault", hall::build, Hall.REFUSED);
            due("at its end", () -> hall.count(2), text.length());
            String again = "input a:1;var x:1;x=a" + "^a".repeat(1400) + ";assert x==a;" + "while0(0){}".repeat(60);
            Hall.feed(hall, again);
            due("a long one behind it", hall::build, 1);
            due("its WORK", () -> hall.count(6), 1400 + 8 + 8 + 1);
            set(hall, 0, 1, 0);
            due("its run", hall::run, 0);
            due("a ^ a .. ^ a", () -> hall.value(0), 1);
            due("no RUN fails", hall::fails, 0);
            due("both END", hall::ends, 2);
            due("count(9)", () -> hall.count(9), 0);
        }
    }

    private static ProofHall used() {
        ProofHall hall = Hall.with("input a:4;var x:4;var y:8;x=a;y=a+1;assert a!=6;");
        due("fails", hall::fails, 1);
        set(hall, 0, 11, 0);
        due("run", hall::run, 0);
        return hall;
    }

    static void oneBeforeStays() {
        String[] texts = {"assert", "x=1;z=1;", "var x:1;var x:1;", "input a:1;a=1;", "var x:9;", "input a:8;input b:8;",
            "input b:8;var x:8;while8(x)while8(x)while8(x)x=1;assert x;assert b;"};
        for (int i = 0; i < texts.length; i++) {
            ProofHall hall = used();
            int kind = i + 1;
            Hall.feed(hall, texts[i]);
            due("build of '" + texts[i] + "'", hall::build, Hall.REFUSED);
            due("fault", () -> hall.count(1), kind == 1 ? 1 : kind);
            due("INPUTS", () -> hall.count(3), 1);
            due("VARIABLES", () -> hall.count(4), 2);
            due("assertions", () -> hall.count(5), 1);
            due("WORK", () -> hall.count(6), 8 + 8 + 4 + 8 + 4);
            due("WITNESS", () -> hall.witness(0), 6);
            due("RUN", () -> hall.value(0), 11);
            due("RUN", () -> hall.value(1), 12);
            due("INPUTS", hall::run, 0);
            due("INPUTS", () -> hall.value(0), 11);
            due("its meaning", () -> hall.greatest(1), 15);
            due("its meaning", () -> hall.witness(0), 14);
            due("its meaning", () -> hall.can(0, 6), 0);
        }
    }

    static void allAnew() {
        String[] texts = {"input a:4;var x:4;var y:8;x=a;y=a+1;assert a!=6;", "input a:8;input b:4;var x:8;var y:8;x=a;y=b;"};
        for (String text : texts) {
            ProofHall hall = used();
            set(hall, 0, 6, 0);
            due("it fails", hall::run, 1);
            due("at 0", () -> hall.count(7), 0);
            Hall.feed(hall, text);
            due("build", () -> Math.min(0, hall.build()), 0);
            due("no WITNESS", () -> hall.count(8), 0);
            due("no WITNESS", () -> hall.witness(0), Hall.MISSING);
            take(hall, Hall.MISSING);
            due("no RUN", () -> hall.value(0), 0);
            due("no RUN", () -> hall.value(1), 0);
            due("no RUN", () -> hall.count(7), -1);
            due("run", hall::run, 0);
            due("INPUTS are 0", () -> hall.value(0), 0);
        }
    }

    static void howMany() {
        int[] many = {0, 1, 2, 186, 187};
        for (int n : many) {
            ProofHall hall = new ProofHall();
            Hall.feed(hall, "assert 1;".repeat(n));
            due(n + " assertions", hall::build, n);
            due(n + " are counted", () -> hall.count(5), n);
        }
        ProofHall never = new ProofHall();
        Hall.feed(never, "while0(0){" + "assert0;".repeat(510) + "}");
        due("510 that are never come to", never::build, 510);
        due("the last", () -> never.failsAt(509), 0);
        due("no 510", () -> never.failsAt(510), Hall.MISSING);
        ProofHall in = new ProofHall();
        Hall.feed(in, "if(0){assert 1;}else{assume 1;while2(0)assert 1;}assert 1;");
        due("in branches and loops, each once", in::build, 3);
    }

    static void anyFails() {
        due("no assertion", () -> Hall.with("input a:8;").fails(), 0);
        due("one that holds", () -> Hall.with("input a:8;assert a<=255;").fails(), 0);
        due("one that fails for one", () -> Hall.with("input a:8;assert a<255;").fails(), 1);
        due("one that fails for all", () -> Hall.with("input a:8;assert 0;").fails(), 1);
        due("one that isn't come to", () -> Hall.with("input a:8;assume a>255;assert 0;").fails(), 0);
        due("one that one comes to", () -> Hall.with("input a:8;assume a>254;assert 0;").fails(), 1);
        ProofHall last = Hall.with("input a:8;input b:4;" + "assert 1;".repeat(150) + "assert a+b*0!=255||b!=15;");
        due("the last of 151", last::fails, 1);
        due("for the last INPUTS", () -> last.witness(0), 255);
        due("for the last INPUTS", () -> last.witness(1), 15);
        due("the last one alone", () -> last.failsAt(150), 1);
        due("not the one before", () -> last.failsAt(149), 0);
        ProofHall later = Hall.with("input a:2;if(a==2)assert 0;assert a!=1;");
        due("the least of all that fail", later::fails, 1);
        due("is 1", () -> later.witness(0), 1);
    }

    static void failsThere() {
        ProofHall hall = Hall.with("input a:8;assert a!=200;assert 1;if(a>9)assert a!=100;assert a!=200;assume a!=5;assert a!=5;"
            + "while3(a<3)assert a!=2;");
        int[] witness = {200, -1, 100, -1, -1, 2};
        for (int i = 0; i < witness.length; i++) {
            int k = i;
            due("failsAt " + k, () -> hall.failsAt(k), witness[k] < 0 ? 0 : 1);
            due("its WITNESS", () -> hall.witness(0), witness[k] < 0 ? Hall.MISSING : witness[k]);
            due("is there one", () -> hall.count(8), witness[k] < 0 ? 0 : 1);
            if (witness[k] >= 0) {
                take(hall, 0);
                due("it FAILS", hall::run, 1);
                due("there", () -> hall.count(7), k);
            }
        }
        ProofHall loop = Hall.with("input a:3;var x:3;while7(x<a){assert x!=3;x=x+1;}");
        due("in a later round", () -> loop.failsAt(0), 1);
        due("for 4 rounds", () -> loop.witness(0), 4);
    }

    static void noSuchAssertion() {
        int[] none = {Integer.MIN_VALUE, -1, 2, 3, Integer.MAX_VALUE};
        ProofHall hall = Hall.with("input a:2;assert a!=2;assert a!=1;");
        for (int k : none) {
            refuses("failsAt " + k, hall, () -> hall.failsAt(k), Hall.MISSING);
        }
        due("failsAt 0", () -> hall.failsAt(0), 1);
        due("its witness", () -> hall.witness(0), 2);
        due("failsAt 1", () -> hall.failsAt(1), 1);
        due("its witness", () -> hall.witness(0), 1);
        due("of none", () -> Hall.with("").failsAt(0), Hall.MISSING);
        due("of none", () -> Hall.with("").failsAt(-1), Hall.MISSING);
    }

    static void leastValue() {
        int[] lows = {0, 1, 2, 127, 128, 129, 254, 255};
        for (int low : lows) {
            ProofHall hall = Hall.with("input a:8;input b:2;var x:8;x=a;assume a>=" + low + ";assert b!=0;");
            due("least", () -> hall.least(0), low);
            due("its a", () -> hall.witness(0), low);
            due("its b, for which it ENDS", () -> hall.witness(1), 1);
        }
        ProofHall down = Hall.with("input a:8;var x:8;x=255-a;");
        due("least is the last one's", () -> down.least(0), 0);
        due("with 255", () -> down.witness(0), 255);
        due("greatest is the first one's", () -> down.greatest(0), 255);
        due("with 0", () -> down.witness(0), 0);
        ProofHall same = Hall.with("input a:8;var x:8;x=a>>4;assume a>17;");
        due("several have it", () -> same.least(0), 1);
        due("the first of them", () -> same.witness(0), 18);
        due("several have it", () -> same.greatest(0), 15);
        due("the first of them", () -> same.witness(0), 240);
    }

    static void noneEnds() {
        String[] texts = {"var x:8;x=9;assert 0;", "var x:8;x=9;assume 0;", "var x:8;while0(1){}",
            "input a:8;input b:4;var x:8;x=a;assert a+b<9;assume a+b>8;"};
        for (String text : texts) {
            ProofHall hall = Hall.with(text);
            due("least of " + text, () -> hall.least(0), -1);
            due("no WITNESS", () -> hall.count(8), 0);
            due("greatest of " + text, () -> hall.greatest(0), -1);
            due("no WITNESS", () -> hall.count(8), 0);
            due("ends", hall::ends, 0);
            due("can", () -> hall.can(0, 0), 0);
            due("proofs", () -> hall.count(9), 0);
        }
        ProofHall one = Hall.with("input a:8;input b:4;var x:8;x=b;assume a==255&&b==15;");
        due("one ENDS", () -> one.least(0), 15);
        due("with 255", () -> one.witness(0), 255);
        due("one ENDS", () -> one.greatest(0), 15);
        due("with 15", () -> one.witness(1), 15);
    }

    static void noSuchVariable() {
        int[] none = {Integer.MIN_VALUE, -1, 2, 12, Integer.MAX_VALUE};
        ProofHall hall = Hall.with("input a:2;var x:2;var y:3;x=a;y=a+4;");
        due("a question before", () -> hall.can(0, 3), 1);
        for (int v : none) {
            refuses("least " + v, hall, () -> hall.least(v), Hall.MISSING);
            refuses("greatest " + v, hall, () -> hall.greatest(v), Hall.MISSING);
        }
        due("least 0", () -> hall.least(0), 0);
        due("least 1", () -> hall.least(1), 4);
        due("greatest 0", () -> hall.greatest(0), 3);
        due("greatest 1", () -> hall.greatest(1), 7);
        due("of none", () -> Hall.with("input a:2;").least(0), Hall.MISSING);
        due("of none", () -> Hall.with("input a:2;").greatest(0), Hall.MISSING);
        StringBuilder twelve = new StringBuilder("input z:4;");
        for (char c = 'a'; c <= 'l'; c++) {
            twelve.append("var ").append(c).append(":8;");
        }
        ProofHall all = Hall.with(twelve + "l=z+200;k=z;");
        due("the last of 12", () -> all.least(11), 200);
        due("the last of 12", () -> all.greatest(11), 215);
        due("the one before", () -> all.greatest(10), 15);
        due("no thirteenth", () -> all.least(12), Hall.MISSING);
        due("no thirteenth", () -> all.greatest(12), Hall.MISSING);
        due("no thirteenth", () -> all.value(12), Hall.MISSING);
    }

    static void greatestValue() {
        int[] tops = {0, 1, 126, 127, 128, 254, 255};
        for (int high : tops) {
            ProofHall hall = Hall.with("input a:8;input b:2;var x:8;x=a;assume a<=" + high + ";assert b>1;");
            due("greatest", () -> hall.greatest(0), high);
            due("its a", () -> hall.witness(0), high);
            due("its b, for which it ENDS", () -> hall.witness(1), 2);
        }
        for (int w = 1; w <= 8; w++) {
            int most = (1 << w) - 1;
            ProofHall hall = Hall.with("input a:8;var x:" + w + ";x=a;");
            due("greatest of " + w + " bits", () -> hall.greatest(0), most);
            due("its witness", () -> hall.witness(0), most);
        }
    }

    static void notTheSame() {
        for (int bit = 0; bit < 8; bit++) {
            int flip = 1 << bit;
            ProofHall hall = Hall.with("input a:8;var x:8;var y:8;x=a;y=a;if(a==200)y=a^" + flip + ";");
            due("one bit, once", () -> hall.differ(0, 1), 1);
            due("its witness", () -> hall.witness(0), 200);
            due("the other way round", () -> hall.differ(1, 0), 1);
            due("its witness", () -> hall.witness(0), 200);
        }
        ProofHall widths = Hall.with("input a:4;var x:4;var y:8;var z:3;x=a;y=a;z=a;");
        due("other WIDTHS, the same", () -> widths.differ(0, 1), 0);
        due("cut", () -> widths.differ(0, 2), 1);
        due("the first that is cut", () -> widths.witness(0), 8);
        ProofHall failing = Hall.with("input a:4;var x:4;var y:4;x=a;assert a<1;");
        due("only RUNS that END", () -> failing.differ(0, 1), 0);
        ProofHall ending = Hall.with("input a:4;var x:4;var y:4;x=a;assert a<2;");
        due("one that does", () -> ending.differ(0, 1), 1);
        due("with 1", () -> ending.witness(0), 1);
    }

    static void withItself() {
        ProofHall hall = Hall.with("input a:8;var x:8;var y:8;x=a;y=a^255;");
        for (int v = 0; v < 2; v++) {
            int which = v;
            due("differ", () -> hall.differ(0, 1), 1);
            due("a WITNESS", () -> hall.count(8), 1);
            due("with itself", () -> hall.differ(which, which), 0);
            due("no WITNESS then", () -> hall.count(8), 0);
        }
    }

    static void oneMissing() {
        ProofHall hall = Hall.with("input a:2;var x:2;var y:3;x=a;y=a+4;");
        due("differ", () -> hall.differ(0, 1), 1);
        int[] none = {Integer.MIN_VALUE, -1, 2, 12, Integer.MAX_VALUE};
        for (int v : none) {
            refuses("the first " + v, hall, () -> hall.differ(v, 0), Hall.MISSING);
            refuses("the second " + v, hall, () -> hall.differ(1, v), Hall.MISSING);
            refuses("both " + v, hall, () -> hall.differ(v, v), Hall.MISSING);
        }
    }

    static void anyInt() {
        for (int w = 1; w <= 8; w++) {
            int top = (1 << w) - 1;
            ProofHall hall = Hall.with("input a:8;var x:" + w + ";x=a;");
            int[] within = {0, 1, top - 1, top};
            for (int x : within) {
                due(x + " of " + w + " bits", () -> hall.can(0, x), 1);
                due("its witness", () -> hall.witness(0), x);
            }
            int[] never = {-1, -2, top + 1, top + 2, 256, 257, 512, 1 << 16, 1 << 24, 1 << 30, Integer.MIN_VALUE,
                Integer.MIN_VALUE + 1, Integer.MAX_VALUE, Integer.MAX_VALUE - 1, -256, -255, -257, ~top};
            for (int x : never) {
                due(x + " of " + w + " bits", () -> hall.can(0, x), 0);
                due("no WITNESS", () -> hall.count(8), 0);
            }
        }
        ProofHall held = Hall.with("input a:8;var x:8;x=a;assert a!=77;assume a!=78;");
        due("76", () -> held.can(0, 76), 1);
        due("77 FAILS", () -> held.can(0, 77), 0);
        due("78 is OUT", () -> held.can(0, 78), 0);
        due("79", () -> held.can(0, 79), 1);
        due("its witness", () -> held.witness(0), 79);
    }

    static void canMissing() {
        int[] none = {Integer.MIN_VALUE, -1, 1, 2, 12, Integer.MAX_VALUE};
        ProofHall hall = Hall.with("input a:2;var x:2;x=a;");
        due("can", () -> hall.can(0, 2), 1);
        for (int v : none) {
            refuses("VARIABLE " + v, hall, () -> hall.can(v, 0), Hall.MISSING);
            refuses("VARIABLE " + v + " with what can't be", hall, () -> hall.can(v, -1), Hall.MISSING);
        }
    }

    static void atMostTwenty() {
        int[] many = {0, 1, 2, 18, 19, 20, 21, 22, 40, 128, 255, 256};
        for (int n : many) {
            String most = n == 256 ? "assert 1;" : "assert a<" + n + ";";
            ProofHall hall = Hall.with("input a:8;" + most);
            due(n + " END", hall::ends, Math.min(n, 20));
            ProofHall last = Hall.with("input a:8;assume a>=" + (256 - n) % 256 + "&&" + (n > 0 ? 1 : 0) + ";");
            due("the last " + n + " END", last::ends, Math.min(n, 20));
            due("proofs", () -> last.count(9), 0);
        }
        due("of 4096", () -> Hall.with("input a:8;input b:4;").ends(), 20);
        due("of 1", () -> Hall.with("var x:8;").ends(), 1);
        due("of 2", () -> Hall.with("input a:1;").ends(), 2);
        due("of 16", () -> Hall.with("input a:4;").ends(), 16);
        due("of 32", () -> Hall.with("input a:5;").ends(), 20);
        due("one of 4096", () -> Hall.with("input a:8;input b:4;assert a==255&&b==15;").ends(), 1);
        due("INPUTS nothing hangs on count, too", () -> Hall.with("input a:1;input b:4;assume a;").ends(), 16);
    }

    static void noWitnessThen() {
        int[] many = {0, 1, 19, 20, 21};
        for (int n : many) {
            ProofHall hall = Hall.with("input a:8;var x:8;x=a;assert a<" + n + ";");
            due("fails", hall::fails, 1);
            due("a WITNESS", () -> hall.witness(0), n);
            due("ends", hall::ends, Math.min(n, 20));
            due("none then", () -> hall.count(8), 0);
            due("none then", () -> hall.witness(0), Hall.MISSING);
            take(hall, Hall.MISSING);
        }
    }

    static void witnessThere() {
        StringBuilder text = new StringBuilder();
        StringBuilder all = new StringBuilder("1");
        for (char c = 'a'; c <= 'l'; c++) {
            text.append("input ").append(c).append(":1;");
            all.append(c % 2 == 0 ? "&&" : "&&!").append(c);
        }
        ProofHall hall = Hall.with(text + "assert !(" + all + ");");
        due("fails", hall::fails, 1);
        for (int i = 0; i < 12; i++) {
            int which = i;
            due("INPUT " + i, () -> hall.witness(which), i % 2);
        }
        ProofHall two = Hall.with("input a:8;input b:4;var x:1;assert a<255||b<15;");
        due("fails", two::fails, 1);
        due("the greatest a", () -> two.witness(0), 255);
        due("the greatest b", () -> two.witness(1), 15);
        set(two, 0, 3, 0);
        due("run", two::run, 0);
        due("it stays as it is", () -> two.witness(0), 255);
    }

    static void witnessMissing() {
        StringBuilder text = new StringBuilder();
        for (char c = 'a'; c <= 'l'; c++) {
            text.append("input ").append(c).append(":1;");
        }
        ProofHall hall = Hall.with(text + "assert !l;");
        int[] none = {Integer.MIN_VALUE, -1, 12, 13, Integer.MAX_VALUE};
        due("none before a question", () -> hall.witness(0), Hall.MISSING);
        due("fails", hall::fails, 1);
        for (int i : none) {
            refuses("no INPUT " + i, hall, () -> hall.witness(i), Hall.MISSING);
        }
        due("the last", () -> hall.witness(11), 1);
        ProofHall two = Hall.with("input a:8;input b:4;assert b;");
        due("fails", two::fails, 1);
        due("the second", () -> two.witness(1), 0);
        due("no third", () -> two.witness(2), Hall.MISSING);
        due("of none", () -> Hall.with("assert 1;").witness(0), Hall.MISSING);
    }

    static void setIsCut() {
        for (int w = 1; w <= 8; w++) {
            int top = (1 << w) - 1;
            ProofHall hall = Hall.with("input a:" + w + ";input b:4;var x:8;var y:8;x=a;y=b;");
            int[] asked = {0, 1, top, top + 1, top + 2, -1, -2, 255, 256, 257, Integer.MIN_VALUE, Integer.MAX_VALUE, ~top};
            for (int x : asked) {
                int was = hall.value(0);
                set(hall, 0, x, 0);
                due("not before the RUN", () -> hall.value(0), was);
                due("run", hall::run, 0);
                due(x + " in " + w + " bits", () -> hall.value(0), x & top);
                due("the other one stays", () -> hall.value(1), 0);
                due("run", hall::run, 0);
                due("in the next one, too", () -> hall.value(0), x & top);
            }
        }
    }

    static void setMissing() {
        ProofHall hall = Hall.with("input a:4;input b:4;var x:8;var y:8;x=a;y=b;");
        set(hall, 0, 5, 0);
        set(hall, 1, 6, 0);
        int[] none = {Integer.MIN_VALUE, -1, 2, 3, 12, Integer.MAX_VALUE};
        for (int i : none) {
            refuses("no INPUT " + i, hall, () -> Hall.nothing(() -> hall.set(i, 9)), Hall.MISSING);
        }
        due("run", hall::run, 0);
        due("a is as before", () -> hall.value(0), 5);
        due("b is as before", () -> hall.value(1), 6);
        ProofHall without = Hall.with("var x:8;");
        set(without, 0, 1, Hall.MISSING);
    }

    static void takesAll() {
        ProofHall hall = Hall.with("input a:8;input b:4;var x:8;var y:8;x=a;y=b;assert a<255||b<15;");
        set(hall, 0, 3, 0);
        set(hall, 1, 4, 0);
        due("fails", hall::fails, 1);
        due("run", hall::run, 0);
        due("not before take", () -> hall.value(0), 3);
        take(hall, 0);
        due("a RUN isn't made by it", () -> hall.value(0), 3);
        due("run", hall::run, 1);
        due("all of them", () -> hall.value(0), 255);
        due("all of them", () -> hall.value(1), 15);
        set(hall, 0, 1, 0);
        due("the WITNESS stays", () -> hall.witness(0), 255);
        take(hall, 0);
        due("and can be taken again", hall::run, 1);
    }

    static void nothingToTake() {
        ProofHall hall = Hall.with("input a:8;input b:4;var x:8;var y:8;x=a;y=b;assert a<255||b<15;");
        set(hall, 0, 3, 0);
        set(hall, 1, 4, 0);
        take(hall, Hall.MISSING);
        due("run", hall::run, 0);
        due("a is as before", () -> hall.value(0), 3);
        due("b is as before", () -> hall.value(1), 4);
        due("none", () -> hall.can(0, 256), 0);
        take(hall, Hall.MISSING);
        due("run", hall::run, 0);
        due("a is as before", () -> hall.value(0), 3);
        due("ends", hall::ends, 20);
        take(hall, Hall.MISSING);
        due("fails", hall::fails, 1);
        take(hall, 0);
        due("run", hall::run, 1);
    }

    /** Of the INPUTS as they were set, of nothing else, and as often as it's asked for. */
    static void oneRun() {
        ProofHall hall = Hall.with("input a:4;var x:8;x=x+a+1;");
        due("no RUN before", () -> hall.value(0), 0);
        due("run", hall::run, 0);
        due("INPUTS of 0", () -> hall.value(0), 1);
        set(hall, 0, 6, 0);
        for (int n = 0; n < 3; n++) {
            due("run", hall::run, 0);
            due("each from the beginning", () -> hall.value(0), 7);
        }
        due("a question", () -> hall.can(0, 3), 1);
        due("its WITNESS isn't taken", hall::run, 0);
        due("the INPUTS are as set", () -> hall.value(0), 7);
        Hall.feed(hall, "x=1;");
        due("TEXT is no part of it", hall::run, 0);
        due("TEXT is no part of it", () -> hall.value(0), 7);
    }

    static void runAnswers() {
        ProofHall hall = Hall.with("input a:2;assert a!=1;assume a!=2;");
        int[] want = {0, 1, 2, 0};
        for (int a = 0; a < 4; a++) {
            set(hall, 0, a, 0);
            due("run of " + a, hall::run, want[a]);
            due("again", hall::run, want[a]);
        }
        due("questions take no INPUTS", hall::fails, 1);
        due("of 3", hall::run, 0);
    }

    static void asLeft() {
        ProofHall hall = Hall.with("input a:2;var x:8;var y:8;x=a+10;assert a!=1;y=20;assume a!=2;y=30;");
        int[] y = {30, 0, 20, 30};
        for (int a = 0; a < 4; a++) {
            set(hall, 0, a, 0);
            due("run", () -> Math.min(0, hall.run()), 0);
            int wantX = a + 10;
            int wantY = y[a];
            due("x of " + a, () -> hall.value(0), wantX);
            due("y of " + a, () -> hall.value(1), wantY);
        }
    }

    static void zeroWithout() {
        ProofHall hall = Hall.with("input a:2;var x:8;var y:8;x=a+10;y=7;");
        due("0 without", () -> hall.value(0), 0);
        due("0 without", () -> hall.value(1), 0);
        due("a question is no RUN", () -> hall.greatest(0), 13);
        due("0 without", () -> hall.value(0), 0);
        due("run", hall::run, 0);
        due("not 0 with one", () -> hall.value(1), 7);
        Hall.feed(hall, "input a:2;var x:8;var y:8;x=a+10;y=7;");
        due("build", hall::build, 0);
        due("0 without", () -> hall.value(0), 0);
        due("0 without", () -> hall.value(1), 0);
    }

    static void valueMissing() {
        ProofHall hall = Hall.with("input a:2;var x:8;var y:8;x=5;y=6;");
        int[] none = {Integer.MIN_VALUE, -1, 2, 12, Integer.MAX_VALUE};
        for (int v : none) {
            due("without a RUN", () -> hall.value(v), Hall.MISSING);
        }
        due("run", hall::run, 0);
        for (int v : none) {
            refuses("VARIABLE " + v, hall, () -> hall.value(v), Hall.MISSING);
        }
        due("0", () -> hall.value(0), 5);
        due("1", () -> hall.value(1), 6);
        due("of none", () -> Hall.with("").value(0), Hall.MISSING);
    }

    static void countsText() {
        ProofHall hall = new ProofHall();
        due("empty", () -> hall.count(0), 0);
        due("feed", () -> feedBlanks(hall), 20);
        due("20", () -> hall.count(0), 20);
        due("end", () -> hall.end(19), 1);
        due("1", () -> hall.count(0), 1);
        due("build", hall::build, 0);
        due("empty", () -> hall.count(0), 0);
    }

    static void countsFaults() {
        String[] texts = {"var x:1;x=1", "  y=1;", "var x:1;var x:1;", "input a:1;a=1;", "while9(1){}", "input a:8;input b:8;",
            "var x:8;while8(x)while8(x)while8(x)x=1;"};
        int[] where = {11, 2, 12, 10, 5, 16, 39};
        ProofHall hall = new ProofHall();
        due("0 before any", () -> hall.count(1), 0);
        due("-1 before any", () -> hall.count(2), -1);
        Hall.feed(hall, "assert 1;");
        due("build", hall::build, 1);
        due("0 before any", () -> hall.count(1), 0);
        due("-1 before any", () -> hall.count(2), -1);
        for (int i = 0; i < texts.length; i++) {
            int kind = i + 1;
            int at = where[i];
            Hall.feed(hall, texts[i]);
            due("build", hall::build, Hall.REFUSED);
            due("the latest", () -> hall.count(1), kind);
            due("its WHERE", () -> hall.count(2), at);
            Hall.feed(hall, "assert 1;");
            due("build", hall::build, 1);
            due("a build without leaves it", () -> hall.count(1), kind);
            due("and its WHERE", () -> hall.count(2), at);
        }
        ProofHall empty = new ProofHall();
        Hall.feed(empty, "}");
        due("build", empty::build, Hall.REFUSED);
        due("WHERE 0", () -> empty.count(2), 0);
    }

    /** Its WHERE, too: before any, of each FAULT, and behind a build without one. */
    static void countsWhere() {
        ProofHall hall = new ProofHall();
        due("-1 before any", () -> hall.count(2), -1);
        due("build", hall::build, 0);
        due("-1 before any", () -> hall.count(2), -1);
        String[] texts = {"}", " }", "assert 1", "y=1;", "assert 1;assert y;"};
        int[] where = {0, 1, 8, 0, 16};
        for (int i = 0; i < texts.length; i++) {
            int at = where[i];
            Hall.feed(hall, texts[i]);
            due("build of " + texts[i], hall::build, Hall.REFUSED);
            due("where in " + texts[i], () -> hall.count(2), at);
            due("build", hall::build, 0);
            due("it stays", () -> hall.count(2), at);
        }
    }

    static void countsProgram() {
        ProofHall hall = new ProofHall();
        for (int i = 3; i <= 6; i++) {
            int what = i;
            due("without", () -> hall.count(what), 0);
        }
        Hall.feed(hall, "input a:3;input b:2;var x:4;x=a;assert x;assert b;assume a;");
        due("fed, not built", () -> hall.count(3), 0);
        due("build", hall::build, 2);
        int[] want = {2, 1, 2, 32};
        for (int i = 3; i <= 6; i++) {
            int what = i;
            due("count(" + i + ")", () -> hall.count(what), want[what - 3]);
        }
        Hall.feed(hall, "var x:1;var y:1;var z:1;assert 1;@");
        due("a fault", hall::build, Hall.REFUSED);
        for (int i = 3; i <= 6; i++) {
            int what = i;
            due("as before, count(" + i + ")", () -> hall.count(what), want[what - 3]);
        }
        due("an empty one", hall::build, 0);
        for (int i = 3; i <= 6; i++) {
            int what = i;
            due("of nothing, count(" + i + ")", () -> hall.count(what), 0);
        }
        StringBuilder most = new StringBuilder();
        for (char c = 'a'; c <= 'l'; c++) {
            most.append("input ").append(c).append(":1;var ").append(c).append(c).append(":8;");
        }
        ProofHall full = Hall.with(most + "assert 1;".repeat(187) + "while0(1+1+1+1+1){}");
        due("12 INPUTS", () -> full.count(3), 12);
        due("12 VARIABLES", () -> full.count(4), 12);
        due("187 assertions", () -> full.count(5), 187);
        due("WORK of 1500", () -> full.count(6), 1500);
    }

    static void countsFailed() {
        ProofHall hall = Hall.with("input a:3;assert a!=1;assert a!=2;assume a!=3;assert a!=4;");
        due("without a RUN", () -> hall.count(7), -1);
        int[] at = {-1, 0, 1, -1, 2, -1};
        for (int a = 0; a < at.length; a++) {
            int want = at[a];
            int before = hall.count(7);
            set(hall, 0, a, 0);
            due("set is no RUN", () -> hall.count(7), before);
            due("fails is no RUN", hall::fails, 1);
            due("fails is no RUN", () -> hall.count(7), before);
            due("run", () -> Math.min(0, hall.run()), 0);
            due("of " + a, () -> hall.count(7), want);
        }
        set(hall, 0, 4, 0);
        due("run", hall::run, 1);
        due("build", hall::build, 0);
        due("no RUN", () -> hall.count(7), -1);
    }

    static void countsWitness() {
        ProofHall hall = Hall.with("input a:3;var x:3;x=a;assert a!=1;");
        due("none", () -> hall.count(8), 0);
        due("can", () -> hall.can(0, 1), 0);
        due("none", () -> hall.count(8), 0);
        due("can", () -> hall.can(0, 0), 1);
        due("of 0, the least", () -> hall.count(8), 1);
        due("run", hall::run, 0);
        due("it stays", () -> hall.count(8), 1);
        due("ends", hall::ends, 7);
        due("none", () -> hall.count(8), 0);
        due("greatest", () -> hall.greatest(0), 7);
        due("one", () -> hall.count(8), 1);
        due("build", hall::build, 0);
        due("none", () -> hall.count(8), 0);
    }

    /** Proofs of many steps, models of all kinds; behind each call it is 0. */
    static void countsNever() {
        String[] texts = {"", "assert 0;", "input a:8;input b:4;var x:8;var y:8;x=a*b;y=b*a;assert x==y;",
            "input a:6;input b:6;var x:8;var y:8;x=(a+b)*(a+b);y=a*a+b*b+2*a*b;assert a/b*b+a%b==a||!b;",
            "input a:8;input b:4;var x:8;var y:8;while8(x<b)x=x+1;y=a%(x+1);assert y<=x;",
            "input a:8;input b:4;var x:8;var y:8;x=a^b;y=77;assert a!=200;if(b==3)assert a<100;assume b!=4;assert a!=b;"};
        for (String text : texts) {
            ProofHall hall = Hall.with(text);
            due("behind build", () -> hall.count(9), 0);
            due("fails", () -> Math.min(0, hall.fails()), 0);
            due("behind fails", () -> hall.count(9), 0);
            due("ends", () -> Math.min(0, hall.ends()), 0);
            due("behind ends", () -> hall.count(9), 0);
            for (int k = 0; k < hall.count(5); k++) {
                int which = k;
                due("failsAt", () -> Math.min(0, hall.failsAt(which)), 0);
                due("behind failsAt", () -> hall.count(9), 0);
            }
            for (int v = 0; v < hall.count(4); v++) {
                int which = v;
                due("least", () -> Math.min(0, hall.least(which)), 0);
                due("greatest", () -> Math.min(0, hall.greatest(which)), 0);
                due("differ", () -> Math.min(0, hall.differ(which, 0)), 0);
                due("can", () -> Math.min(0, hall.can(which, 77)), 0);
                due("behind all", () -> hall.count(9), 0);
            }
        }
        ProofHall spoiled = Hall.with("assert 0;");
        Hall.feed(spoiled, "assert");
        due("build", spoiled::build, Hall.REFUSED);
        due("behind a fault", () -> spoiled.count(9), 0);
    }

    static void countsElse() {
        ProofHall hall = Hall.with("input a:3;assert a;");
        int[] none = {Integer.MIN_VALUE, -2, -1, 10, 11, 16, 256, Integer.MAX_VALUE};
        for (int what : none) {
            due("count(" + what + ")", () -> hall.count(what), -1);
        }
        due("count(9)", () -> hall.count(9), 0);
        due("count(0)", () -> hall.count(0), 0);
    }

    /** Of two that are used by turns, neither knows of the other. */
    static void twoObjects() {
        ProofHall first = new ProofHall();
        ProofHall second = new ProofHall();
        Hall.feed(first, "input a:4;var x:4;x=a;assert a!=9;");
        due("TEXT of the other", () -> second.count(0), 0);
        Hall.feed(second, "input a:4;input b:4;var x:8;x=a+b;assert 0;assert 1;");
        due("build", first::build, 1);
        due("no PROGRAM of the other", second::run, Hall.REFUSED);
        due("build", second::build, 2);
        due("fails", first::fails, 1);
        due("no WITNESS of the other", () -> second.count(8), 0);
        due("greatest", () -> second.greatest(0), -1);
        due("its WITNESS stays", () -> first.witness(0), 9);
        set(first, 0, 7, 0);
        due("run of the other", second::run, 1);
        due("run", first::run, 0);
        due("value", () -> first.value(0), 7);
        due("value of the other", () -> second.value(0), 0);
        due("failed", () -> second.count(7), 0);
        due("not failed", () -> first.count(7), -1);
        Hall.feed(first, "}");
        due("a FAULT", first::build, Hall.REFUSED);
        due("none of the other", () -> second.count(1), 0);
        due("least", () -> first.least(0), 0);
    }
}
