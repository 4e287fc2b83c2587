import java.util.function.IntSupplier;

/**
 * Tests of what the document's "Terms" say of VALUES and of a RUN. A rule is held against RUNS with
 * the INPUTS at and around the boundaries, and against what the questions answer for all INPUTS.
 */
final class RunSentences {
    /** What an operation on x and y is, of WIDTHS wx and wy; not yet cut. */
    private interface Rule {
        int worth(int x, int y, int wx, int wy);
    }

    private static void due(String what, IntSupplier call, long want) {
        Hall.due(what, call, want);
    }

    private static int top(int width) {
        return (1 << width) - 1;
    }

    /** The boundary, and on both sides of it: the ends of a WIDTH, and its middle. */
    private static int[] edges(int width) {
        int half = 1 << width - 1;
        return width == 1 ? new int[] {0, 1} : width == 2 ? new int[] {0, 1, 2, 3}
            : new int[] {0, 1, 2, half - 1, half, half + 1, top(width) - 1, top(width)};
    }

    /** One operation, for each two WIDTHS: both INPUTS, or an INPUT and what is made of one. */
    private static void everywhere(String sign, Rule rule, boolean oneBit, boolean ofFirst) {
        for (int wx = 1; wx <= 8; wx++) {
            for (int wy = 1; wy <= 8; wy++) {
                int width = oneBit ? 1 : ofFirst ? wx : Math.max(wx, wy);
                if (wx + wy <= 12) {
                    inRuns(sign, rule, wx, wy, width);
                }
                inQuestions(sign, rule, wx, wy, width);
            }
        }
    }

    private static void inRuns(String sign, Rule rule, int wx, int wy, int width) {
        ProofHall hall = Hall.with("input a:" + wx + ";input b:" + wy + ";var x:8;x=a" + sign + "b;");
        for (int x : edges(wx)) {
            for (int y : edges(wy)) {
                hall.set(0, x);
                hall.set(1, y);
                hall.run();
                due(x + sign + y + " of " + wx + " and " + wy + " bits", () -> hall.value(0),
                    rule.worth(x, y, wx, wy) & top(width));
            }
        }
    }

    /** Where two INPUTS are more than 12 bits, the second is the first one's rest and its greatest. */
    private static void inQuestions(String sign, Rule rule, int wx, int wy, int width) {
        int bits = Math.min(wy, 12 - wx);
        ProofHall hall = Hall.with("input a:" + wx + ";input b:" + bits + ";var y:" + wy + ";var x:8;y=b;if(b=="
            + top(bits) + ")y=" + top(wy) + ";x=a" + sign + "y;");
        int[] first = new int[256];
        java.util.Arrays.fill(first, -1);
        for (int n = 0; n < 1 << wx + bits; n++) {
            int b = n & top(bits);
            int x = rule.worth(n >> bits, b == top(bits) ? top(wy) : b, wx, wy) & top(width);
            if (first[x] < 0) {
                first[x] = n;
            }
        }
        int least = 0;
        int greatest = 255;
        while (first[least] < 0) {
            least++;
        }
        while (first[greatest] < 0) {
            greatest--;
        }
        String which = "a" + sign + "y of " + wx + " and " + wy + " bits: ";
        due(which + "least", () -> hall.least(1), least);
        witness(which + "least", hall, first[least], bits);
        due(which + "greatest", () -> hall.greatest(1), greatest);
        witness(which + "greatest", hall, first[greatest], bits);
        int[] asked = {0, 1, top(width) / 2, top(width) - 1, top(width), greatest + 1};
        for (int x : asked) {
            int number = x < 0 || x > 255 ? -1 : first[x];
            due(which + "can be " + x, () -> hall.can(1, x), number < 0 ? 0 : 1);
            witness(which + "can be " + x, hall, number, bits);
        }
        due(which + "proofs", () -> hall.count(9), 0);
    }

    private static void witness(String which, ProofHall hall, int number, int bits) {
        due(which + ", its a", () -> hall.witness(0), number < 0 ? Hall.MISSING : number >> bits);
        due(which + ", its b", () -> hall.witness(1), number < 0 ? Hall.MISSING : number & top(bits));
    }

    /** What an EXPR of NUMBERS alone is. */
    private static int alone(String expr) {
        ProofHall hall = Hall.with("var x:8;x=" + expr + ";");
        hall.run();
        int x = hall.value(0);
        due("the same by a question: " + expr, () -> hall.least(0), x);
        return x;
    }

    static void numberWidths() {
        for (int n = 0; n <= 255; n++) {
            int width = Math.max(1, 32 - Integer.numberOfLeadingZeros(n));
            int number = n;
            due("~" + number, () -> alone("~" + number), ~number & top(width));
            due(number + "|~" + number, () -> alone(number + "|~" + number), top(width));
        }
    }

    static void ranges() {
        for (int w = 1; w <= 8; w++) {
            ProofHall hall = Hall.with("input a:" + w + ";var x:" + w + ";var y:8;x=a;y=a;");
            int width = w;
            due("least of " + w + " bits", () -> hall.least(0), 0);
            due("greatest of " + w + " bits", () -> hall.greatest(0), top(width));
            due("greatest INPUT of " + w + " bits", () -> hall.greatest(1), top(width));
            due("its witness", () -> hall.witness(0), top(width));
            due("its greatest", () -> hall.can(0, top(width)), 1);
            due("one more", () -> hall.can(0, top(width) + 1), 0);
            due("one less than 0", () -> hall.can(0, -1), 0);
        }
    }

    static void greaterWidth() {
        everywhere("+", (x, y, v, w) -> x + y, false, false);
        everywhere("-", (x, y, v, w) -> x - y, false, false);
        everywhere("*", (x, y, v, w) -> x * y, false, false);
        everywhere("&", (x, y, v, w) -> x & y, false, false);
        everywhere("|", (x, y, v, w) -> x | y, false, false);
        everywhere("^", (x, y, v, w) -> x ^ y, false, false);
    }

    static void divisions() {
        everywhere("/", (x, y, v, w) -> y == 0 ? -1 : x / y, false, false);
    }

    static void rests() {
        everywhere("%", (x, y, v, w) -> y == 0 ? x : x % y, false, false);
    }

    static void shifts() {
        everywhere("<<", (x, y, v, w) -> y >= v ? 0 : x << y, false, true);
        everywhere(">>", (x, y, v, w) -> y >= v ? 0 : x >> y, false, true);
    }

    static void oneBit() {
        everywhere("==", (x, y, v, w) -> truth(x == y), true, false);
        everywhere("!=", (x, y, v, w) -> truth(x != y), true, false);
        everywhere("<", (x, y, v, w) -> truth(x < y), true, false);
        everywhere("<=", (x, y, v, w) -> truth(x <= y), true, false);
        everywhere(">", (x, y, v, w) -> truth(x > y), true, false);
        everywhere(">=", (x, y, v, w) -> truth(x >= y), true, false);
        everywhere("&&", (x, y, v, w) -> truth(x != 0 && y != 0), true, false);
        everywhere("||", (x, y, v, w) -> truth(x != 0 || y != 0), true, false);
        single("!", (x, y, v, w) -> truth(x == 0), true);
    }

    static void itsWidth() {
        single("~", (x, y, v, w) -> ~x, false);
        single("-", (x, y, v, w) -> -x, false);
    }

    static void cutToWidth() {
        for (int w = 1; w <= 8; w++) {
            ProofHall hall = Hall.with("input a:8;var x:" + w + ";var y:8;x=a;y=x;");
            int[] asked = {0, 1, top(w) - 1, top(w), top(w) + 1, top(w) + 2, 254, 255};
            int most = top(w);
            for (int x : asked) {
                hall.set(0, x);
                hall.run();
                due(x + " in " + w + " bits", () -> hall.value(0), x & 255 & most);
                due("and read again", () -> hall.value(1), x & 255 & most);
            }
            due("greatest", () -> hall.greatest(0), most);
            due("its witness", () -> hall.witness(0), most);
            due("one more", () -> hall.can(0, most + 1), 0);
            due("read again", () -> hall.greatest(1), most);
        }
        ProofHall narrow = Hall.with("var x:8;var y:8;x=3;x=x+255;y=1;");
        narrow.run();
        due("255 + 3", () -> narrow.value(0), 2);
        ProofHall wide = Hall.with("var x:8;var y:1;x=255;y=1;x=y;");
        wide.run();
        due("what is narrower leaves no bits", () -> wide.value(0), 1);
        due("nor for a question", () -> wide.least(0), 1);
    }

    static void farShifts() {
        int[] far = {31, 32, 33, 63, 64, 65, 127, 128, 129, 254, 255};
        for (int w = 1; w <= 8; w++) {
            int most = top(w);
            for (int by = 0; by <= 9; by++) {
                int left = by >= w ? 0 : most << by & most;
                int right = by >= w ? 0 : most >> by;
                String number = Integer.toString(by);
                due(most + "<<" + number, () -> alone(most + "<<" + number), left);
                due(most + ">>" + number, () -> alone(most + ">>" + number), right);
            }
            for (int by : far) {
                due(most + "<<" + by, () -> alone(most + "<<" + by), 0);
                due(most + ">>" + by, () -> alone(most + ">>" + by), 0);
            }
        }
    }

    static void byNothing() {
        for (int w = 1; w <= 8; w++) {
            int most = top(w);
            int half = 1 << w - 1;
            due(most + "/0", () -> alone(most + "/0"), most);
            due(half + "/0", () -> alone(half + "/0"), most);
            due(half + "%0", () -> alone(half + "%0"), half);
            due(most + "%0", () -> alone(most + "%0"), most);
            // 0 of w bits: the outcome is as wide as the wider one.
            due("1/(" + most + "-" + most + ")", () -> alone("1/(" + most + "-" + most + ")"), most);
            due("1%(" + most + "-" + most + ")", () -> alone("1%(" + most + "-" + most + ")"), 1);
            due("0/(" + most + "-" + most + ")", () -> alone("0/(" + most + "-" + most + ")"), most);
            due("0%(" + most + "-" + most + ")", () -> alone("0%(" + most + "-" + most + ")"), 0);
            due(most + "/1", () -> alone(most + "/1"), most);
            due(most + "%1", () -> alone(most + "%1"), 0);
            due(most + "/" + most, () -> alone(most + "/" + most), 1);
            due(most + "%" + most, () -> alone(most + "%" + most), 0);
        }
        due("7/2", () -> alone("7/2"), 3);
        due("6/2", () -> alone("6/2"), 3);
        due("5/2", () -> alone("5/2"), 2);
        due("254/255", () -> alone("254/255"), 0);
        due("254%255", () -> alone("254%255"), 254);
    }

    /** ~0 of an outcome's WIDTH shows the WIDTH. */
    static void outcomes() {
        String[] greater = {"+", "-", "*", "&", "|", "^", "/", "%"};
        String[] one = {"==", "!=", "<", "<=", ">", ">=", "&&", "||"};
        for (int wx = 1; wx <= 8; wx++) {
            for (int wy = 1; wy <= 8; wy++) {
                String x = Integer.toString(top(wx));
                String y = Integer.toString(top(wy));
                int most = top(Math.max(wx, wy));
                for (String sign : greater) {
                    due("WIDTH of " + x + sign + y, () -> full(x + sign + y), most);
                }
                for (String sign : one) {
                    due("WIDTH of " + x + sign + y, () -> full(x + sign + y), 1);
                }
                int first = top(wx);
                due("WIDTH of " + x + "<<" + y, () -> full(x + "<<" + y), first);
                due("WIDTH of " + x + ">>" + y, () -> full(x + ">>" + y), first);
                due("WIDTH of 255?" + x + ":" + y, () -> full("255?" + x + ":" + y), most);
                due("WIDTH of 0?" + x + ":" + y, () -> full("0?" + x + ":" + y), most);
            }
        }
    }

    private static int full(String expr) {
        ProofHall hall = Hall.with("var x:8;x=(" + expr + ")|~(" + expr + ");");
        hall.run();
        return hall.value(0);
    }

    private static int truth(boolean so) {
        return so ? 1 : 0;
    }

    private static void single(String sign, Rule rule, boolean oneBit) {
        for (int w = 1; w <= 8; w++) {
            int width = oneBit ? 1 : w;
            int mine = w;
            ProofHall hall = Hall.with("input a:" + w + ";var x:8;x=" + sign + "a;");
            for (int x : edges(w)) {
                hall.set(0, x);
                hall.run();
                int want = rule.worth(x, 0, mine, mine) & top(width);
                due(sign + x + " of " + w + " bits", () -> hall.value(0), want);
                due(sign + x + " of " + w + " bits can be", () -> hall.can(0, want), 1);
            }
            for (int x = -1; x <= 256; x++) {
                int number = -1;
                for (int a = top(w); a >= 0; a--) {
                    number = (rule.worth(a, 0, mine, mine) & top(width)) == x ? a : number;
                }
                if (x < 2 || x > top(w) - 2 && x < top(w) + 2 || x > 254) {
                    int asked = x;
                    int want = number;
                    due(sign + "a of " + w + " bits can be " + x, () -> hall.can(0, asked), want < 0 ? 0 : 1);
                    due(sign + "a of " + w + " bits is " + x, () -> hall.witness(0), want < 0 ? Hall.MISSING : want);
                }
            }
        }
    }

    static void choices() {
        for (int w = 1; w <= 8; w++) {
            // The first one's WIDTH doesn't count, and any that isn't 0 picks the second.
            ProofHall hall = Hall.with("input a:" + w + ";var x:8;var y:8;x=a?2:1;y=~(a?1:0);");
            for (int x : edges(w)) {
                hall.set(0, x);
                hall.run();
                due(x + "?2:1", () -> hall.value(0), x == 0 ? 1 : 2);
                due("~(" + x + "?1:0)", () -> hall.value(1), x == 0 ? 1 : 0);
            }
            due("least of a?2:1", () -> hall.least(0), 1);
            due("with 0", () -> hall.witness(0), 0);
            due("greatest of a?2:1", () -> hall.greatest(0), 2);
            due("with 1", () -> hall.witness(0), 1);
            due("~ of one bit", () -> hall.greatest(1), 1);
            due("with 0", () -> hall.witness(0), 0);
        }
        due("~(1?0:255)", () -> alone("~(1?0:255)"), 255);
        due("~(1?255:0)", () -> alone("~(1?255:0)"), 0);
        due("~(0?255:0)", () -> alone("~(0?255:0)"), 255);
        due("~(255?0:1)", () -> alone("~(255?0:1)"), 1);
    }

    static void zeroAtFirst() {
        ProofHall hall = Hall.with("input a:1;var x:8;var y:8;y=x+1;if(a)x=9;");
        hall.set(0, 1);
        for (int n = 0; n < 3; n++) {
            due("run", hall::run, 0);
            due("x", () -> hall.value(0), 9);
            due("y", () -> hall.value(1), 1);
        }
        due("for a question", () -> hall.greatest(1), 1);
        due("for a question", () -> hall.least(1), 1);
    }

    static void inOrder() {
        ProofHall hall = Hall.with("var x:8;x=x*2+1;x=x*2+1;{x=x*2;x=x*2+1;}x=x*2;");
        hall.run();
        due("x", () -> hall.value(0), 26);
        due("for a question", () -> hall.least(0), 26);
    }

    static void failsThere() {
        ProofHall hall = Hall.with("input a:3;var x:8;x=1;assert a!=1;x=2;assert a;x=3;assert a<200;x=4;assert a-5;x=5;");
        int[] outcome = {1, 1, 0, 0, 0, 1, 0, 0};
        int[] at = {1, 0, -1, -1, -1, 3, -1, -1};
        int[] left = {2, 1, 5, 5, 5, 4, 5, 5};
        for (int a = 0; a < 8; a++) {
            hall.set(0, a);
            due("run of " + a, hall::run, outcome[a]);
            int want = at[a];
            due("failed at of " + a, () -> hall.count(7), want);
            int x = left[a];
            due("left by " + a, () -> hall.value(0), x);
        }
        due("greatest of those that end", () -> hall.least(0), 5);
        due("no other", () -> hall.greatest(0), 5);
        due("five end", hall::ends, 5);
        ProofHall twice = Hall.with("input a:1;assert a;assert a;");
        due("the first one fails", () -> twice.failsAt(0), 1);
        due("the second isn't come to", () -> twice.failsAt(1), 0);
        for (int w = 1; w <= 8; w++) {
            ProofHall wide = Hall.with("input a:" + w + ";assert a;");
            due("0 alone", wide::fails, 1);
            due("0 alone", () -> wide.witness(0), 0);
            int many = top(w);
            due("all others end", wide::ends, Math.min(many, 20));
        }
    }

    static void isOut() {
        ProofHall hall = Hall.with("input a:2;var x:8;x=1;assume a;x=2;assert a!=1;assume a!=2;x=3;");
        int[] outcome = {2, 1, 2, 0};
        int[] left = {1, 2, 2, 3};
        for (int a = 0; a < 4; a++) {
            hall.set(0, a);
            due("run of " + a, hall::run, outcome[a]);
            int x = left[a];
            due("left by " + a, () -> hall.value(0), x);
            int at = a == 1 ? 0 : -1;
            due("failed at of " + a, () -> hall.count(7), at);
        }
        due("one fails", hall::fails, 1);
        due("with 1", () -> hall.witness(0), 1);
        due("one ends", hall::ends, 1);
        ProofHall before = Hall.with("input a:1;assume a;assert 0;");
        due("OUT before it fails", before::run, 2);
        due("the other fails", before::fails, 1);
        due("with 1", () -> before.witness(0), 1);
    }

    /** a rounds are asked for: n - 1, n, n + 1 and more than the loop has. */
    static void atMost() {
        for (int n = 0; n <= 8; n++) {
            ProofHall hall = Hall.with("input a:4;var x:4;while" + n + "(x!=a)x=x+1;");
            int most = n;
            for (int a = 0; a < 16; a++) {
                hall.set(0, a);
                due(a + " rounds of while " + n, hall::run, a <= n ? 0 : 2);
                int x = Math.min(a, n);
                due("x then", () -> hall.value(0), x);
            }
            due("greatest of while " + n, () -> hall.greatest(0), most);
            due("its witness", () -> hall.witness(0), most);
            due("one more than " + n, () -> hall.can(0, most + 1), 0);
            due("so many end", hall::ends, most + 1);
        }
    }

    static void onceMore() {
        // EXPR that isn't 0 behind the last round is OUT, and its STATEMENT isn't come to once more.
        ProofHall hall = Hall.with("input a:3;var x:3;while3(x<a){assert x!=3;x=x+1;}assert x!=2;");
        int[] outcome = {0, 0, 1, 0, 2, 2, 2, 2};
        for (int a = 0; a < 8; a++) {
            hall.set(0, a);
            due("run of " + a, hall::run, outcome[a]);
        }
        due("never in a fourth round", () -> hall.failsAt(0), 0);
        due("three end", hall::ends, 3);
        ProofHall none = Hall.with("input a:2;var x:2;while0(a){x=1;assert 0;}assert a;x=2;");
        due("for n 0, of 0", none::run, 1);
        due("fails behind it", () -> none.count(7), 1);
        none.set(0, 1);
        due("for n 0, of 1", none::run, 2);
        due("x isn't set", () -> none.value(0), 0);
        due("not in it", () -> none.failsAt(0), 0);
        due("behind it", () -> none.failsAt(1), 1);
        due("with 0", () -> none.witness(0), 0);
        due("none ends", none::ends, 0);
        ProofHall endless = Hall.with("input a:2;var x:4;while8(1)x=x+1;");
        due("always OUT", endless::run, 2);
        due("behind 8 rounds", () -> endless.value(0), 8);
        due("none ends", endless::ends, 0);
        due("none ends", () -> endless.least(0), -1);
        ProofHall never = Hall.with("input a:2;var x:4;while8(0)x=x+1;");
        due("not once", never::run, 0);
        due("not once", () -> never.greatest(0), 0);
    }

    static void loopsInLoops() {
        ProofHall hall = Hall.with("input a:3;input b:3;var x:8;var y:4;var z:4;"
            + "while3(y<a){y=y+1;z=0;while2(z<b){z=z+1;x=x+1;}}");
        for (int a = 0; a < 8; a++) {
            for (int b = 0; b < 8; b++) {
                hall.set(0, a);
                hall.set(1, b);
                boolean ends = a == 0 || a <= 3 && b <= 2;
                int x = a == 0 ? 0 : b > 2 ? 2 : Math.min(a, 3) * b;
                due("run of " + a + " and " + b, hall::run, ends ? 0 : 2);
                due("x of " + a + " and " + b, () -> hall.value(0), x);
            }
        }
        due("greatest", () -> hall.greatest(0), 6);
        due("its a", () -> hall.witness(0), 3);
        due("its b", () -> hall.witness(1), 2);
        due("so many end", hall::ends, 8 + 9);
    }

    private static int ends(String text) {
        ProofHall hall = Hall.with(text);
        int ended = 0;
        for (int n = 0; n < 16; n++) {
            hall.set(0, n >> 2);
            hall.set(1, n & 3);
            ended += hall.run() == 0 ? 1 : 0;
        }
        int want = ended;
        due("RUNS that END of " + text, hall::ends, want);
        return ended;
    }

    static void manyZeros() {
        String start = "input a:2;input b:2;var x:2;";
        due("a", () -> ends(start + "while0(a){}"), 4);
        due("a and b", () -> ends(start + "while0(a){}while0(b){}"), 1);
        due("a and a", () -> ends(start + "while0(a){}while0(a){}"), 4);
        due("a, b and a", () -> ends(start + "while0(a){}while0(b){}while0(a){}"), 1);
        due("in a branch", () -> ends(start + "if(b)while0(a){}"), 4 + 3);
        due("in a branch and behind it", () -> ends(start + "if(b)while0(a){}while0(a){}"), 4);
        due("before a branch and in it", () -> ends(start + "while0(a>1){}if(b)while0(a){}"), 2 + 3);
        due("in both", () -> ends(start + "if(b)while0(a){}else while0(a){}"), 4);
        due("in the other", () -> ends(start + "if(b){}else while0(a){}"), 12 + 1);
        due("in both, of others", () -> ends(start + "if(b)while0(a){}else while0(a>2){}"), 3 + 3);
        due("of one that is set between", () -> ends(start + "x=a;while0(x){}x=b;while0(x){}"), 1);
        due("of one that is set to the same", () -> ends(start + "x=a;while0(x){}x=a;while0(x){}"), 4);
        due("in a loop", () -> ends(start + "while3(x<a){x=x+1;while0(b){}}"), 4 + 3);
        due("in a loop and behind it", () -> ends(start + "while3(x<a){x=x+1;while0(b){}}while0(b){}"), 4);
        StringBuilder many = new StringBuilder(start);
        for (int n = 0; n < 40; n++) {
            many.append("while0(a==").append(n % 3 + 1).append("){}while0(b==").append(n % 7 + 3).append("){}");
        }
        due("many", () -> ends(many.toString()), 3);
        due("of what is never 0, behind others", () -> ends(start + "while0(a){}while0(1){}"), 0);
        due("of what is always 0, behind others", () -> ends(start + "while0(a){}while0(0){}"), 4);
        StringBuilder each = new StringBuilder("input a:6;");
        for (int n = 0; n < 50; n++) {
            each.append("while0(a==").append(n).append("){}");
        }
        due("fifty others", () -> Hall.with(each.toString()).ends(), 14);
        due("and again", () -> Hall.with(each + "while0(a==7){}while0(a==55){}while0(a==49){}").ends(), 13);
        // The same one built again, and another: nothing of what was denied before counts.
        ProofHall again = new ProofHall();
        String[] texts = {"input a:2;while0(a){}", "input a:2;while0(a){}", "input b:2;", "input b:2;while0(b>1){}",
            "input a:1;input b:1;while0(a){}", "input a:1;input b:1;while0(b){}", "input a:1;input b:1;while0(a){}while0(b){}"};
        int[] want = {1, 1, 4, 2, 2, 2, 1};
        for (int i = 0; i < texts.length; i++) {
            Hall.feed(again, texts[i]);
            due("build of " + texts[i], again::build, 0);
            due("ends of " + texts[i], again::ends, want[i]);
        }
    }

    static void deepLoops() {
        String loops = "while1(a)".repeat(29);
        ProofHall fails = Hall.with("input a:1;" + loops + "while1(a)assert 0;");
        due("of 0", fails::run, 0);
        due("fails", fails::fails, 1);
        due("of 1", () -> fails.witness(0), 1);
        fails.set(0, 1);
        due("of 1", fails::run, 1);
        ProofHall out = Hall.with("input a:1;" + loops + "while1(a){}");
        out.set(0, 1);
        due("OUT", out::run, 2);
        due("one ends", out::ends, 1);
        ProofHall ifs = Hall.with("input a:1;" + "if(a)".repeat(29) + "if(a)assert 0;");
        due("ifs", ifs::fails, 1);
        due("ifs of 1", () -> ifs.witness(0), 1);
        ProofHall set = Hall.with("input a:1;var x:8;" + "if(a){}else ".repeat(29) + "x=7;");
        due("elses", () -> set.greatest(0), 7);
        due("elses of 0", () -> set.witness(0), 0);
        due("elses", () -> set.least(0), 0);
        due("elses of 1", () -> set.witness(0), 1);
    }

    /** What RUNS leave, against what questions say of them: x and y, for a of 2 bits. */
    private static void bothWays(String statements, int[] outcome, int[] x, int[] y) {
        ProofHall hall = Hall.with("input a:2;var x:4;var y:4;" + statements);
        for (int a = 0; a < 4; a++) {
            hall.set(0, a);
            due("run of " + a + ": " + statements, hall::run, outcome[a]);
            int wantX = x[a];
            int wantY = y[a];
            due("x of " + a + ": " + statements, () -> hall.value(0), wantX);
            due("y of " + a + ": " + statements, () -> hall.value(1), wantY);
        }
        for (int n = 0; n < 16; n++) {
            int byX = -1;
            int byY = -1;
            for (int a = 3; a >= 0; a--) {
                byX = outcome[a] == 0 && x[a] == n ? a : byX;
                byY = outcome[a] == 0 && y[a] == n ? a : byY;
            }
            int wantX = byX;
            int wantY = byY;
            int asked = n;
            due("x can be " + n + ": " + statements, () -> hall.can(0, asked), wantX < 0 ? 0 : 1);
            due("for: " + statements, () -> hall.witness(0), wantX < 0 ? Hall.MISSING : wantX);
            due("y can be " + n + ": " + statements, () -> hall.can(1, asked), wantY < 0 ? 0 : 1);
            due("for: " + statements, () -> hall.witness(0), wantY < 0 ? Hall.MISSING : wantY);
        }
        int ended = 0;
        int failing = -1;
        for (int a = 3; a >= 0; a--) {
            ended += outcome[a] == 0 ? 1 : 0;
            failing = outcome[a] == 1 ? a : failing;
        }
        int wantEnded = ended;
        int wantFailing = failing;
        due("ends: " + statements, hall::ends, wantEnded);
        due("fails: " + statements, hall::fails, wantFailing < 0 ? 0 : 1);
        due("for: " + statements, () -> hall.witness(0), wantFailing < 0 ? Hall.MISSING : wantFailing);
    }

    static void oneOrTheOther() {
        int[] all = {0, 0, 0, 0};
        bothWays("if(a)x=5;", all, new int[] {0, 5, 5, 5}, all);
        bothWays("if(a)x=5;else x=6;", all, new int[] {6, 5, 5, 5}, all);
        bothWays("if(a){x=5;}else{y=x+1;}", all, new int[] {0, 5, 5, 5}, new int[] {1, 0, 0, 0});
        bothWays("x=9;if(a==2){x=5;y=x;}else{y=x+1;}", all, new int[] {9, 9, 5, 9}, new int[] {10, 10, 5, 10});
        bothWays("if(a==1)assume 0;else x=3;", new int[] {0, 2, 0, 0}, new int[] {3, 0, 3, 3}, all);
        bothWays("if(a==1)x=3;else assume a;", new int[] {2, 0, 0, 0}, new int[] {0, 3, 0, 0}, all);
        bothWays("if(a==1){}else assume a;", new int[] {2, 0, 0, 0}, all, all);
        bothWays("if(a==1)assume 0;else{}", new int[] {0, 2, 0, 0}, all, all);
        bothWays("if(a==1)assume 0;else assume a!=3;", new int[] {0, 2, 0, 2}, all, all);
        bothWays("if(a==1)assert 0;else x=3;", new int[] {0, 1, 0, 0}, new int[] {3, 0, 3, 3}, all);
        bothWays("if(a==1)x=3;else assert a;y=1;", new int[] {1, 0, 0, 0}, new int[] {0, 3, 0, 0}, new int[] {0, 1, 1, 1});
        bothWays("if(a>1)if(a>2)x=3;else x=2;else x=1;", all, new int[] {1, 1, 2, 3}, all);
        bothWays("if(a>1){if(a>2)assume 0;}else if(a)assert 0;x=1;", new int[] {0, 1, 0, 2}, new int[] {1, 0, 1, 0}, all);
        bothWays("while3(x<a){if(x==1)y=y+5;else y=y+1;x=x+1;}", all, new int[] {0, 1, 2, 3}, new int[] {0, 1, 6, 7});
        bothWays("while2(x<a){x=x+1;assert x!=2||a==3;}", new int[] {0, 0, 1, 2}, new int[] {0, 1, 2, 2}, all);
    }

    static void itEnds() {
        due("nothing at all", () -> Hall.with("").run(), 0);
        due("assert of 1", () -> Hall.with("assert 1;").run(), 0);
        due("assert of 128", () -> Hall.with("assert 128;").run(), 0);
        due("assume of 128", () -> Hall.with("assume 128;").run(), 0);
        due("assert of 0", () -> Hall.with("assert 0;").run(), 1);
        due("assume of 0", () -> Hall.with("assume 0;").run(), 2);
        due("neither is come to", () -> Hall.with("if(0)assert 0;else if(0)assume 0;").run(), 0);
        due("assert first", () -> Hall.with("assert 0;assume 0;").run(), 1);
        due("assume first", () -> Hall.with("assume 0;assert 0;").run(), 2);
    }
}
