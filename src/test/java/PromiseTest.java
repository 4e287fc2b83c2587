import java.util.function.IntSupplier;

/** Each promise of the document: ordinary inputs, the edges it names, and wrong inputs. */
public final class PromiseTest {
    private static void due(String what, IntSupplier call, long want) {
        Hall.due(what, call, want);
    }

    private static String times(String s, int n) {
        return s.repeat(n);
    }

    private static int nothing(Runnable call) {
        return Hall.nothing(call);
    }

    public static void main(String[] args) {
        newObject();
        feed();
        end();
        build();
        syntax();
        depth();
        otherFaults();
        work();
        fails();
        failsAt();
        leastAndGreatest();
        differ();
        can();
        ends();
        witness();
        set();
        take();
        run();
        loops();
        operations();
        value();
        count();
        Hall.finish();
    }

    /** Promise 1, and that REFUSED comes before missing. */
    private static void newObject() {
        ProofHall hall = new ProofHall();
        int[] want = {0, 0, -1, 0, 0, 0, 0, -1, 0, 0};
        for (int i = 0; i < want.length; i++) {
            int what = i;
            due("1: count(" + i + ") of a new object", () -> hall.count(what), want[i]);
        }
        refusesAll("1: a new object", hall);
        due("1: a text of no bytes is a program", hall::build, 0);
        due("1: which ends", hall::run, 0);
        due("1: once", hall::ends, 1);
        due("1: and can't fail", hall::fails, 0);
    }

    private static void refusesAll(String who, ProofHall hall) {
        due(who + " refuses fails", hall::fails, Hall.REFUSED);
        due(who + " refuses failsAt", () -> hall.failsAt(-1), Hall.REFUSED);
        due(who + " refuses least", () -> hall.least(0), Hall.REFUSED);
        due(who + " refuses greatest", () -> hall.greatest(99), Hall.REFUSED);
        due(who + " refuses differ", () -> hall.differ(0, -1), Hall.REFUSED);
        due(who + " refuses can", () -> hall.can(12, 0), Hall.REFUSED);
        due(who + " refuses ends", hall::ends, Hall.REFUSED);
        due(who + " refuses witness", () -> hall.witness(0), Hall.REFUSED);
        due(who + " refuses set", () -> nothing(() -> hall.set(0, 0)), Hall.REFUSED);
        due(who + " refuses take", () -> nothing(hall::take), Hall.REFUSED);
        due(who + " refuses run", hall::run, Hall.REFUSED);
        due(who + " refuses value", () -> hall.value(-7), Hall.REFUSED);
    }

    /** Promise 2. */
    private static void feed() {
        ProofHall hall = new ProofHall();
        due("2: feed", () -> hall.feed(0x76617220, 0x783a323b, 0x20783d33, 0x3b202020, 0x20202020), 20);
        due("2: highest byte first", hall::build, 0);
        due("2: run", hall::run, 0);
        due("2: 'var x:2; x=3;'", () -> hall.value(0), 3);
        for (int i = 1; i <= 204; i++) {
            int n = i;
            due("2: feed adds 20", () -> hall.feed(0x20202020, 0x0a0a0a0a, 0x20202020, 0x20202020, 0x20202020), 20 * n);
        }
        due("2: 4100 are too many", () -> hall.feed(0, 0, 0, 0, 0), Hall.BEYOND);
        due("2: and nothing has changed", () -> hall.count(0), 4080);
        due("2: end", () -> hall.end(4), 4076);
        due("2: 4096 are not", () -> hall.feed(0x20202020, 0x20202020, 0x20202020, 0x20202020, 0x20202020), 4096);
        due("2: 4096 are full", () -> hall.feed(0, 0, 0, 0, 0), Hall.BEYOND);
        due("2: blanks are a program", hall::build, 0);
        due("2: without variables", () -> hall.count(4), 0);
        due("2: bytes above 127", () -> hall.feed(-1, -1, -1, -1, -1), 20);
        due("2: begin no token", hall::build, Hall.REFUSED);
        due("2: at the first", () -> hall.count(2), 0);
    }

    /** Promise 3. */
    private static void end() {
        ProofHall hall = new ProofHall();
        due("3: none of none", () -> hall.end(0), 0);
        due("3: one of none", () -> hall.end(1), Hall.BAD);
        due("3: feed", () -> hall.feed(0x61737365, 0x72742030, 0x3b404040, 0, 0), 20);
        due("3: fewer than none", () -> hall.end(-1), Hall.BAD);
        due("3: far fewer", () -> hall.end(Integer.MIN_VALUE), Hall.BAD);
        due("3: one too many", () -> hall.end(21), Hall.BAD);
        due("3: most", () -> hall.end(Integer.MAX_VALUE), Hall.BAD);
        due("3: nothing has changed", () -> hall.count(0), 20);
        due("3: the last go", () -> hall.end(11), 9);
        due("3: 'assert 0;' is left", hall::build, 1);
        due("3: it fails", hall::fails, 1);
        due("3: feed again", () -> hall.feed(0, 0, 0, 0, 0), 20);
        due("3: all", () -> hall.end(20), 0);
    }

    /** Promise 4. */
    private static void build() {
        ProofHall hall = Hall.with("input a:4; var x:4; x = a; assert x < 9; assume a; { assert 1; }");
        due("4: text is empty", () -> hall.count(0), 0);
        due("4: inputs are 0", hall::run, 2);
        due("4: fails", hall::fails, 1);
        due("4: set", () -> nothing(() -> hall.set(0, 12)), 0);
        due("4: run", hall::run, 1);
        Hall.feed(hall, "var y:1; y = z; assert 0;");
        due("4: a fault", hall::build, Hall.REFUSED);
        due("4: text is empty", () -> hall.count(0), 0);
        due("4: its kind", () -> hall.count(1), 2);
        due("4: its place", () -> hall.count(2), 13);
        due("4: the program stays", () -> hall.count(5), 2);
        due("4: with its witness", () -> hall.witness(0), 9);
        due("4: its run", () -> hall.value(0), 12);
        due("4: where it failed", () -> hall.count(7), 0);
        due("4: its inputs", hall::run, 1);
        due("4: its meaning", () -> hall.least(0), 1);
        Hall.feed(hall, "input a:4; var x:4; var y:1; x = a; assert x < 9;");
        due("4: another program", hall::build, 1);
        due("4: there's no witness", () -> hall.count(8), 0);
        due("4: not the old one's", () -> hall.witness(0), Hall.MISSING);
        due("4: no run", () -> hall.value(0), 0);
        due("4: none that failed", () -> hall.count(7), -1);
        due("4: inputs are 0", hall::run, 0);
        due("4: the fault stays", () -> hall.count(1), 2);
        due("4: assertions in text", () -> count5("while 0(0){assert 0; assert 1;} if(0) assert 1; else assert 0;"), 4);
        due("4: as many as go in", () -> count5("while0(0){" + times("assert0;", 510) + "}"), 510);
    }

    private static int count5(String text) {
        return Hall.with(text).count(5);
    }

    private static void fault(String text, int kind, int where) {
        Hall.fault(text, kind, where);
    }

    private static void good(String text) {
        Hall.good(text);
    }

    /** Fault 1 of promise 4. */
    private static void syntax() {
        String[] ends = {"input", "input a", "input a:", "input a:1", "var x:1; x", "var x:1; x =", "var x:1; x = 1",
            "var x:1; {", "var x:1; x = (1", "var x:1; x = 1 ? 1", "var x:1; x = 1 ? 1 :", "if", "if(1)", "if(1){}else",
            "while", "while 1", "while 1(1)", "assert", "assume 1", "var x:1; x = 1 +", "var x:1; x = -", "if(1"};
        for (String text : ends) {
            fault(text + "  ", 1, text.length() + 2);
        }
        String[] spots = {"$@", "var $if:1;", "var $1:1;", "var x:$x;", "var x:$256;", "var x:$99999999999999999999;",
            "var $abcdefghi:1;", "var x$;", "var x $= 1;", "var$\tx:1;", "$Var x:1;", "var x$Y:1;", "input$:1;",
            "x = 1; $var x:1;", "var x:1; x = 1; $input a:1;", "var x:1; x $== 1;", "$else x = 1;", "if $1) {}",
            "if (1$; {}", "if ($) {}", "while $(1) {}", "while $x (1) {}", "while 1 $1 {}", "$}", "{$)", "{} $}",
            "var x:1; x = 1 ? 2$;", "var x:1; x = (1 ? 2$);", "var x:1; x = 1 $: 2;", "var x:1; x = (1 $: 2);",
            "var x:1; x = $* 1;", "var x:1; x = 1 $! 2;", "var x:1; x = 1 $~ 2;", "var x:1; x = 1 $1;",
            "var x:1; x = 1 $x;", "var x:1; x = 1 $(1);", "assert$;", "assert 1;$;", "var x:1; x = 1 $= = 1;",
            "var x:1; x = 1 ==$= 1;", "var x:1; x = 1 <<$< 1;", "var x:1; x = 1 >>$>= 1;", "var x:1; x = 1 !=$= 1;",
            "var x:1; x = 1 &&$& 1;", "var x:1; x = 1 ||$| 1;", "var x:1; x = 1 $) ;", "var x:1; x = $;",
            "var x:1; x = 1 + $;", "var x:1; x = 1 && $&& 1;", "if (1) $else {}", "if (1) {} else {} $else {}",
            "var x:1; x = $300;", "var x:1; x = $abcdefghij;", "var x:1; x = 1 +$# 1;", "var x:1; x $1 = 1;",
            "$1 = x;", "input a $1;", "input a:1$:", "var x:1; x = 1 ? 1 : 1 $: 1;", "assign $x;", "{ $var",
            "if (1) $var x:1;", "var x:1; x = 1$\0;", "var x:1; x = 1$\r;", "var x:1; x =$\u00e9 1;"};
        for (String text : spots) {
            int at = text.indexOf('$');
            fault(text.substring(0, at) + text.substring(at + 1), 1, at);
        }
        good("var abcdefgh:1;abcdefgh=1;");
        good("var x:008;x=000255;while00(x){}");
        good("input\na : 1 ;\n\nvar x\n:\n2;x=a<<1>>1<=a>=a!=a==a&&a||a&a|a^a;");
        good("var x:1;if(x)if(x)x=1;else x=0;x=-!~-x*-x;{}{{}}");
        good("var inputs:1;inputs=1?1:0?1:0;assert(1)?1:0;assert1;assume0;");
    }

    /** DEPTH: 30 is the most. */
    private static void depth() {
        String x = "var x:1; x = ";
        good(x + times("(", 30) + "1" + times(")", 30) + ";");
        fault(x + times("(", 31) + "1" + times(")", 31) + ";", 1, x.length() + 31);
        fault(x + times("(", 31) + ")", 1, x.length() + 31);
        good(x + times("!", 30) + "1;");
        fault(x + times("!~-", 10) + "!1;", 1, x.length() + 31);
        good(x + times("-(", 15) + "1" + times(")", 15) + ";");
        fault(x + times("-(", 15) + "-1" + times(")", 15) + ";", 1, x.length() + 31);
        good(x + times("1?", 30) + "1" + times(":1", 30) + ";");
        fault(x + times("1?", 31) + "1" + times(":1", 31) + ";", 1, x.length() + 62);
        good(x + times("1?1:", 30) + "1;");
        fault(x + times("1?1:", 31) + "1;", 1, x.length() + 122);
        good(x + "(" + times("1)+(", 600) + "1);");
        good(x + times("!1?!1:!", 1) + "1;" + times("x=!!!x;", 40));
        good(times("{", 31) + times("}", 31));
        good(times("{", 30) + "assert 1;" + times("}", 30));
        fault(times("{", 31) + "assert 1;" + times("}", 31), 1, 31);
        fault(times("{", 32) + times("}", 32), 1, 31);
        good(times("if(1)", 30) + "assert 1;");
        fault(times("if(1)", 31) + "assert 1;", 1, 30 * 5 + 3);
        good(times("while 1(1)", 30) + "assert 1;");
        fault(times("while 1(1)", 31) + "assert 1;", 1, 30 * 10 + 8);
        good(times("if(1){}else ", 30) + "{}");
        fault(times("if(1){}else ", 30) + "if(1){}", 1, 30 * 12 + 3);
        good(times("{", 29) + "if(1){}else{}" + times("}", 29));
        fault(times("{", 29) + "if(1){assert 1;}" + times("}", 29), 1, 29 + 6);
        fault(times("{", 30) + "if(1){}" + times("}", 30), 1, 30 + 3);
        good(times("{", 29) + "assert(1);assert !1;" + times("}", 29));
        fault(times("{", 29) + "assert((1));" + times("}", 29), 1, 29 + 8);
        fault(times("{", 30) + "assert 1?1:1;" + times("}", 30), 1, 30 + 9);
        good(times("{", 29) + "while 1(1){}" + times("}", 29) + times("if(1)", 30) + "{}");
        good("var x:1;x=" + times("x+x*(", 30) + "x" + times(")", 30) + ";");
        good("var x:1;x=" + times("x||x&&x|x^x&x==x<x<<x+x*(", 30) + "x" + times(")", 30) + ";");
    }

    /** Faults 2 to 6 of promise 4: the first in the text, unless there's SYNTAX. */
    private static void otherFaults() {
        fault("y = 1;", 2, 0);
        fault("var x:1; x = x + yy;", 2, 17);
        fault("assert q; assert 0 p;", 1, 19);
        fault("while 1(w) {}", 2, 8);
        fault("var x:1; var x:2;", 3, 13);
        fault("input x:1; var x:0;", 3, 15);
        fault("var x:1; input x:1; y = 1;", 3, 15);
        fault("input a:1; a = 1;", 4, 11);
        fault("input a:1; a = b;", 4, 11);
        fault("input a:1; var x:1; x = b; a = 1;", 2, 24);
        fault("var x:0;", 5, 6);
        fault("input x:9;", 5, 8);
        fault("var x:255; y = 1;", 5, 6);
        fault("while 9 (1) {}", 5, 6);
        fault("while 255 (z) {}", 5, 6);
        good("while 8 (1) {} while 0 (0) {}");
        good("input a:8; input b:4;");
        fault("input a:8; input b:5;", 6, 17);
        fault("input a:8; input b:4; input c:1;", 6, 28);
        fault("input a:8; input b:9; input c:5;", 5, 19);
        fault("input a:8; input a:8; input c:4;", 3, 17);
        StringBuilder twelve = new StringBuilder();
        StringBuilder bits = new StringBuilder();
        for (char c = 'a'; c <= 'l'; c++) {
            twelve.append("var ").append(c).append(":8;");
            bits.append("input w").append(c).append(":1;");
        }
        good(twelve.toString());
        good(bits + twelve.toString());
        fault(twelve + "var m:1;", 6, twelve.length() + 4);
        fault(bits + "input m:1;", 6, bits.length() + 6);
        fault(twelve + "var m:0;", 5, twelve.length() + 6);
        fault(twelve + "var l:1;", 3, twelve.length() + 4);
        fault(twelve + "var m:1; m = 1; ?", 1, twelve.length() + 16);
    }

    private static void workIs(String text, int much) {
        due("17: WORK of " + text, () -> Hall.with(text).count(6), much);
    }

    /** WORK, and fault 7 of promise 4. */
    private static void work() {
        workIs("", 0);
        workIs("{}{if(1){}else{}}", 0);
        workIs("assert 255;", 8);
        workIs("input a:3; assume a * 255;", 8 + 64);
        workIs("input a:3; assume a * a / a % a;", 8 + 27);
        workIs("input a:3; input b:5; assert a << b;", 8 + 20);
        workIs("input a:3; input b:5; assert b >> a;", 8 + 20);
        workIs("input a:3; input b:5; assert !b;", 8 + 5);
        workIs("input a:3; input b:5; assert a == b;", 8 + 5);
        workIs("input a:3; input b:5; assert ~a + -b;", 8 + 3 + 5 + 5);
        workIs("input a:3; input b:5; assert b ? a : 1;", 8 + 5);
        workIs("input a:3; input b:5; assert 1 ? a : b;", 8 + 5);
        workIs("input a:3; input b:5; assert a && b || 1;", 8 + 5 + 1);
        workIs("var x:2; var y:2; x = 1; if (x < y) x = 2; else y = 2;", 8 + 2 + 16 + 16);
        workIs("var x:2; var y:2; if (x) {}", 16);
        workIs("var x:2; while 3 (x < 2) x = x + 1;", 3 * (2 + 8 + 2 + 8) + 2);
        workIs("var x:2; while 0 (x < 2) x = x / x;", 2);
        workIs("var x:8; while 8 (0) while 5 (0) while 2 (0) {}", 8 * (5 * (2 * 8 + 8) + 8));
        workIs(times("while 8 (1)", 30) + "{}", 0);
        String most = times("assert 1;", 186);
        workIs("input a:4; input b:5;" + most + "assert a & a;", 1500);
        String above = "input a:4; input b:5;" + most + "assert b & b;";
        fault(above, 7, above.length());
        fault(above + "  \n", 7, above.length() + 3);
        String wide = "var x:1;" + times("while 8(x)", 29) + "x = 1;";
        fault(wide, 7, wide.length());
        fault(wide + "y = 1;", 2, wide.length());
        good(times("while 0(1)", 29) + "{" + times("assert 1*1;", 300) + "}");
    }

    /** Promise 5. */
    private static void fails() {
        ProofHall hall = Hall.with("input a:4; input b:4; var x:8; x = a; x = x * b; assert x != 143; assert x != 221;");
        due("5: fails", hall::fails, 1);
        due("5: least a", () -> hall.witness(0), 11);
        due("5: its b", () -> hall.witness(1), 13);
        ProofHall first = Hall.with("input a:2; input b:3; assert a + b < 4;");
        due("5: the first input is highest", first::fails, 1);
        due("5: so a is 0", () -> first.witness(0), 0);
        due("5: and b 4", () -> first.witness(1), 4);
        ProofHall never = Hall.with("input a:6; input b:6; assert (a + b) * (a + b) == a * a + b * b + (a * b << 1);");
        due("5: no run fails", never::fails, 0);
        due("5: no witness", () -> never.count(8), 0);
        due("5: none", () -> never.witness(0), Hall.MISSING);
        due("5: the proof checks", () -> never.count(9), 0);
        ProofHall without = Hall.with("assert 0;");
        due("5: without inputs", without::fails, 1);
        due("5: there's a witness", () -> without.count(8), 1);
        due("5: but none of its inputs", () -> without.witness(0), Hall.MISSING);
        ProofHall out = Hall.with("input a:4; assume a > 12; assert a == 13; assume 0;");
        due("5: a run that fails is no longer out", out::fails, 1);
        due("5: least", () -> out.witness(0), 14);
    }

    /** Promise 6. */
    private static void failsAt() {
        ProofHall hall = Hall.with("input a:4; assert a != 3; if (a > 3) assert a != 9; assert a != 3; assert a < 12;");
        int[] want = {3, 9, -1, 12};
        for (int i = 0; i < 4; i++) {
            int k = i;
            due("6: failsAt " + k, () -> hall.failsAt(k), want[k] < 0 ? 0 : 1);
            due("6: witness of " + k, () -> hall.witness(0), want[k] < 0 ? Hall.MISSING : want[k]);
        }
        due("6: fails at 0 first", hall::fails, 1);
        due("6: with 3", () -> hall.witness(0), 3);
        due("6: no assertion -1", () -> hall.failsAt(-1), Hall.MISSING);
        due("6: no assertion 4", () -> hall.failsAt(4), Hall.MISSING);
        due("6: the witness is as before", () -> hall.witness(0), 3);
        ProofHall loop = Hall.with("input a:3; var x:3; while 7 (x < a) { x = x + 1; assert x != 5; } assert x != 2;");
        due("6: an assertion in a loop", () -> loop.failsAt(0), 1);
        due("6: in a later round", () -> loop.witness(0), 5);
        due("6: one behind it", () -> loop.failsAt(1), 1);
        due("6: witness", () -> loop.witness(0), 2);
        ProofHall never = Hall.with("while 0 (0) { assert 0; }");
        due("6: one that is never come to", () -> never.failsAt(0), 0);
    }

    /** Promises 7 and 8. */
    private static void leastAndGreatest() {
        ProofHall hall = Hall.with("input a:8; input b:4; var x:8; var y:4; x = a * 3 ^ b; y = x / (b + 1); "
            + "assume a % 7 == 3; assert b > 2; assume x % 5 == 1;");
        int low = 999;
        int lowAt = 0;
        int high = -1;
        int highAt = 0;
        for (int n = 0; n < 4096; n++) {
            int a = n >> 4;
            int b = n & 15;
            int x = a * 3 & 255 ^ b;
            if (a % 7 == 3 && b > 2 && x % 5 == 1) {
                if (x < low) {
                    low = x;
                    lowAt = n;
                }
                if (x > high) {
                    high = x;
                    highAt = n;
                }
            }
        }
        due("7: least", () -> hall.least(0), low);
        due("7: its a", () -> hall.witness(0), lowAt >> 4);
        due("7: its b", () -> hall.witness(1), lowAt & 15);
        due("8: greatest", () -> hall.greatest(0), high);
        due("8: its a", () -> hall.witness(0), highAt >> 4);
        due("8: its b", () -> hall.witness(1), highAt & 15);
        due("7: no variable -1", () -> hall.least(-1), Hall.MISSING);
        due("7: no variable 2", () -> hall.least(2), Hall.MISSING);
        due("8: no variable 2", () -> hall.greatest(2), Hall.MISSING);
        due("8: no variable -1", () -> hall.greatest(Integer.MIN_VALUE), Hall.MISSING);
        due("8: the witness is as before", () -> hall.witness(1), highAt & 15);
        due("7: the other variable", () -> hall.least(1), 0);
        ProofHall never = Hall.with("input a:5; var x:5; x = a; assert a & 1; assume !(a & 1);");
        due("7: no run ends", () -> never.least(0), -1);
        due("7: no witness", () -> never.count(8), 0);
        due("8: no run ends", () -> never.greatest(0), -1);
        due("8: no witness", () -> never.count(8), 0);
        ProofHall whole = Hall.with("input a:8; var x:8; var y:1; x = a; y = 3;");
        due("7: 0", () -> whole.least(0), 0);
        due("8: 255", () -> whole.greatest(0), 255);
        due("8: its witness", () -> whole.witness(0), 255);
        due("8: cut to one bit", () -> whole.greatest(1), 1);
        due("7: the same for all", () -> whole.least(1), 1);
        due("7: so its witness is 0", () -> whole.witness(0), 0);
        ProofHall without = Hall.with("var x:4; x = 9;");
        due("7: without inputs", () -> without.least(0), 9);
        due("8: without inputs", () -> without.greatest(0), 9);
        due("8: it has a witness", () -> without.count(8), 1);
    }

    /** Promise 9. */
    private static void differ() {
        ProofHall hall = Hall.with("input a:4; input b:4; var x:8; var y:8; var z:2; x = (a + b) * (a - b); "
            + "y = a * a - b * b; z = a;");
        due("9: 4 bits alike", () -> hall.differ(0, 1), 0);
        due("9: no witness", () -> hall.count(8), 0);
        due("9: they differ", () -> hall.differ(0, 2), 1);
        due("9: its a", () -> hall.witness(0), 0);
        due("9: its b", () -> hall.witness(1), 1);
        due("9: the other way round", () -> hall.differ(2, 0), 1);
        due("9: with itself", () -> hall.differ(2, 2), 0);
        due("9: no witness then", () -> hall.witness(0), Hall.MISSING);
        due("9: differ", () -> hall.differ(1, 2), 1);
        due("9: no variable 3", () -> hall.differ(0, 3), Hall.MISSING);
        due("9: no variable -1", () -> hall.differ(-1, 0), Hall.MISSING);
        due("9: none of both", () -> hall.differ(7, 7), Hall.MISSING);
        due("9: the witness is as before", () -> hall.count(8), 1);
        ProofHall widths = Hall.with("input a:5; var x:5; var y:3; x = a; y = a; assert a != 8 && a != 9;");
        due("9: of other widths", () -> widths.differ(0, 1), 1);
        due("9: of a run that ends", () -> widths.witness(0), 10);
    }

    /** Promise 10. */
    private static void can() {
        ProofHall hall = Hall.with("input a:4; input b:4; var x:8; var y:2; x = a; x = x * b; y = x; assert a != 3;");
        due("10: 15", () -> hall.can(0, 15), 1);
        due("10: its a", () -> hall.witness(0), 1);
        due("10: its b", () -> hall.witness(1), 15);
        due("10: 9 with a run that ends", () -> hall.can(0, 9), 1);
        due("10: its a", () -> hall.witness(0), 1);
        due("10: its b", () -> hall.witness(1), 9);
        due("10: 17 is prime", () -> hall.can(0, 17), 0);
        due("10: no witness", () -> hall.count(8), 0);
        int[] never = {-1, 256, 256 + 15, Integer.MIN_VALUE, Integer.MAX_VALUE, Integer.MIN_VALUE + 15, 255};
        for (int x : never) {
            due("10: never " + x, () -> hall.can(0, x), 0);
        }
        due("10: wider than it is", () -> hall.can(1, 4), 0);
        due("10: as wide", () -> hall.can(1, 3), 1);
        due("10: no variable 2", () -> hall.can(2, 0), Hall.MISSING);
        due("10: no variable -1", () -> hall.can(-1, 999), Hall.MISSING);
        due("10: the witness is as before", () -> hall.count(8), 1);
    }

    /** Promise 11. */
    private static void ends() {
        for (int n = 0; n <= 32; n++) {
            ProofHall hall = Hall.with("input a:3; input b:2; assume a * 4 + b < " + n + " && " + n + ";");
            // 3 bits times 4 are cut to 3 bits, so the claim is spelled with wide numbers.
            ProofHall wide = Hall.with("input a:3; input b:2; var x:8; x = 4; x = a * x + b; assume x < " + n + ";");
            due("11: ends of " + n, wide::ends, Math.min(n, 20));
            due("11: no witness then", () -> wide.count(8), 0);
            int narrow = 0;
            for (int i = 0; i < 32; i++) {
                narrow += ((i >> 2) * 4 & 7) + (i & 3) - (((i >> 2) * 4 & 7) + (i & 3) & 8) < n ? 1 : 0;
            }
            due("11: ends, cut", hall::ends, Math.min(narrow, 20));
        }
        ProofHall all = Hall.with("input a:8; input b:4; assert 1;");
        due("11: 20 are counted of 4096", all::ends, 20);
        ProofHall odd = Hall.with("input a:8; input b:4; assert a * a % 16 == b && a > 250;");
        due("11: a few far up", odd::ends, 5);
        due("11: proofs", () -> odd.count(9), 0);
        ProofHall one = Hall.with("input a:1; assert a;");
        due("11: fails", one::fails, 1);
        due("11: one", one::ends, 1);
        due("11: the witness is gone", () -> one.witness(0), Hall.MISSING);
        due("11: without inputs", () -> Hall.with("assert 1;").ends(), 1);
        due("11: none", () -> Hall.with("assert 0;").ends(), 0);
    }

    /** Promise 12. */
    private static void witness() {
        ProofHall hall = Hall.with("input a:1; input b:3; input c:5; var x:8; x = c; assert !(a && b == 5 && c > 20);");
        due("12: none yet", () -> hall.witness(0), Hall.MISSING);
        due("12: fails", hall::fails, 1);
        int[] want = {1, 5, 21};
        for (int i = 0; i < 3; i++) {
            int which = i;
            due("12: input " + i, () -> hall.witness(which), want[i]);
        }
        due("12: no input 3", () -> hall.witness(3), Hall.MISSING);
        due("12: no input -1", () -> hall.witness(-1), Hall.MISSING);
        due("12: it stays through a run", hall::run, 0);
        due("12: and a setting", () -> nothing(() -> hall.set(0, 1)), 0);
        due("12: still", () -> hall.witness(2), 21);
        due("12: another question", () -> hall.can(0, 7), 1);
        due("12: another witness", () -> hall.witness(2), 7);
        due("12: of its own", () -> hall.witness(0), 0);
    }

    /** Promise 13. */
    private static void set() {
        ProofHall hall = Hall.with("input a:3; input b:8; var x:8; var y:8; x = a; y = b;");
        due("13: set", () -> nothing(() -> hall.set(0, 13)), 0);
        due("13: from the next run on", () -> hall.value(0), 0);
        due("13: run", hall::run, 0);
        due("13: cut to its width", () -> hall.value(0), 5);
        due("13: the other stays 0", () -> hall.value(1), 0);
        due("13: less than 0", () -> nothing(() -> hall.set(1, -2)), 0);
        due("13: run", hall::run, 0);
        due("13: is cut, too", () -> hall.value(1), 254);
        due("13: the first stays", () -> hall.value(0), 5);
        due("13: no input 2", () -> nothing(() -> hall.set(2, 1)), Hall.MISSING);
        due("13: no input -1", () -> nothing(() -> hall.set(-1, 1)), Hall.MISSING);
        due("13: questions ask for all inputs", () -> hall.least(0), 0);
    }

    /** Promise 14. */
    private static void take() {
        ProofHall hall = Hall.with("input a:4; input b:4; var x:4; x = a ^ b; assert a + b != 9;");
        due("14: none", () -> nothing(hall::take), Hall.MISSING);
        due("14: set", () -> nothing(() -> hall.set(0, 6)), 0);
        due("14: a question without", () -> hall.can(0, 16), 0);
        due("14: none", () -> nothing(hall::take), Hall.MISSING);
        due("14: run", hall::run, 0);
        due("14: the inputs are as before", () -> hall.value(0), 6);
        due("14: fails", hall::fails, 1);
        due("14: take", () -> nothing(hall::take), 0);
        due("14: run", hall::run, 1);
        due("14: of 0 and 9", () -> hall.value(0), 9);
        due("14: set behind it", () -> nothing(() -> hall.set(0, 1)), 0);
        due("14: run", hall::run, 0);
        due("14: changes one", () -> hall.value(0), 8);
        due("14: not the witness", () -> hall.witness(0), 0);
        ProofHall without = Hall.with("assert 0;");
        due("14: without inputs", without::fails, 1);
        due("14: take", () -> nothing(without::take), 0);
    }

    /** Promise 15. */
    private static void run() {
        ProofHall hall = Hall.with("input a:2; var x:4; x = 1; assume a != 1; x = 2; assert a != 2; x = 3; assert a < 9; x = 4;");
        int[] outcomes = {0, 2, 1, 0};
        int[] left = {4, 1, 2, 4};
        for (int i = 0; i < 4; i++) {
            int a = i;
            due("15: set", () -> nothing(() -> hall.set(0, a)), 0);
            due("15: run of " + a, hall::run, outcomes[a]);
            due("16: left by " + a, () -> hall.value(0), left[a]);
            due("17: failed at of " + a, () -> hall.count(7), a == 2 ? 0 : -1);
        }
        ProofHall again = Hall.with("var x:4; x = x + 1; if (x > 1) assert 0;");
        due("15: variables are 0 at first", again::run, 0);
        due("15: each time", again::run, 0);
        due("15: each time", () -> again.value(0), 1);
        ProofHall branches = Hall.with("input a:3; var x:4; if (a < 3) x = a + 4; else { x = 9; assert a != 6; } assert x != 5;");
        due("7: of both branches", () -> branches.least(0), 4);
        due("8: of both branches", () -> branches.greatest(0), 9);
        due("8: least input of the second", () -> branches.witness(0), 3);
        due("6: fails in the second", () -> branches.failsAt(0), 1);
        due("6: with", () -> branches.witness(0), 6);
        due("6: fails behind the first", () -> branches.failsAt(1), 1);
        due("6: with", () -> branches.witness(0), 1);
        due("11: six end", branches::ends, 6);
        ProofHall nested = Hall.with("input a:2; var x:4; if (a) if (a > 1) x = 1; else x = 2;");
        int[] due = {0, 2, 1, 1};
        for (int i = 0; i < 4; i++) {
            int a = i;
            due("15: set", () -> nothing(() -> nested.set(0, a)), 0);
            due("15: run", nested::run, 0);
            due("15: else is of the nearest if, " + a, () -> nested.value(0), due[a]);
        }
    }

    /** while, in a run and in all of them. */
    private static void loops() {
        ProofHall hall = Hall.with("input a:4; var x:4; while 5 (x < a) x = x + 1;");
        for (int i = 0; i < 16; i++) {
            int a = i;
            due("15: set", () -> nothing(() -> hall.set(0, a)), 0);
            due("15: loop to " + a, hall::run, a <= 5 ? 0 : 2);
            due("16: x then", () -> hall.value(0), Math.min(a, 5));
        }
        due("8: no further than 5", () -> hall.greatest(0), 5);
        due("11: six end", hall::ends, 6);
        ProofHall none = Hall.with("input a:2; var x:2; while 0 (a) { x = 1; assert 0; } x = 2;");
        due("15: 0 rounds", none::run, 0);
        due("5: no round at all", none::fails, 0);
        due("11: one ends", none::ends, 1);
        due("15: set", () -> nothing(() -> none.set(0, 2)), 0);
        due("15: its EXPR once", none::run, 2);
        due("16: nothing set", () -> none.value(0), 0);
        ProofHall still = Hall.with("input a:2; while 3 (a) { while 8 (a - 1) { assert a != 3; } }");
        due("15: without variables", still::run, 0);
        due("11: one ends", still::ends, 1);
        due("5: a round", still::fails, 1);
        due("5: fails", () -> still.witness(0), 3);
        ProofHall zeros = Hall.with("input a:2; input b:2; var x:1; while 0 (a) {} while 0 (b) {} while 0 (a) {}");
        due("11: 'while 0' of each", zeros::ends, 1);
        ProofHall half = Hall.with("input a:2; input c:1; var x:1; if (c) while 0 (a) {} while 0 (a > 1) {} while 0 (a) {}");
        due("11: 'while 0' in a branch, and behind it", half::ends, 2);
        String deep = "input a:2;" + times("while 8(a)", 29) + "{}";
        ProofHall deeper = Hall.with(deep);
        due("11: loops in loops without WORK", deeper::ends, 1);
        due("15: set", () -> nothing(() -> deeper.set(0, 1)), 0);
        due("15: run", deeper::run, 2);
        ProofHall inner = Hall.with("input a:3; var x:8; var y:4; "
            + "while 3 (y < a) { y = y + 1; while 4 ((x & 3) < y) x = x + 1; x = x + 4 - (x & 3); }");
        due("8: loops in loops", () -> inner.greatest(0), 12);
        due("8: its witness", () -> inner.witness(0), 3);
        due("7: least", () -> inner.least(0), 0);
    }

    private static void worth(String expr, int width, int want) {
        ProofHall hall = Hall.with("input a:4; input b:4; var x:8; x = " + expr + ";");
        hall.set(0, 13);
        hall.set(1, 6);
        hall.run();
        due("15: " + expr, () -> hall.value(0), want);
        ProofHall all = Hall.with("input a:4; input b:4; var x:8; assume a == 13 && b == 6; x = " + expr + ";");
        due("7: " + expr, () -> all.least(0), want);
        due("8: " + expr, () -> all.greatest(0), want);
        // ~0 of one bit turned round fills the outcome's width, which shows it.
        ProofHall wide = Hall.with("input a:4; input b:4; var x:8; x = ~(" + expr + ") | (" + expr + ");");
        wide.run();
        due("15: width of " + expr, () -> wide.value(0), (1 << width) - 1);
        due("7: width of " + expr, () -> wide.least(0), (1 << width) - 1);
    }

    /** VALUES; a is 13, b is 6. */
    private static void operations() {
        worth("a + b", 4, 3);
        worth("a + b + 0 * 16", 5, 3);
        worth("a + (b + 0 * 16)", 5, 19);
        worth("b - a", 4, 9);
        worth("a * b", 4, 14);
        worth("a * b * 128", 8, 0);
        worth("a / b", 4, 2);
        worth("a % b", 4, 1);
        worth("a / 0", 4, 15);
        worth("a % 0", 4, 13);
        worth("3 / (b - b)", 4, 15);
        worth("200 % (b - b)", 8, 200);
        worth("a / 100", 7, 0);
        worth("a & b", 4, 4);
        worth("a | b", 4, 15);
        worth("a ^ b", 4, 11);
        worth("a ^ 32", 6, 45);
        worth("a << 1", 4, 10);
        worth("a << 3", 4, 8);
        worth("a << 4", 4, 0);
        worth("a << 255", 4, 0);
        worth("1 << 1", 1, 0);
        worth("1 << 0", 1, 1);
        worth("a >> 1", 4, 6);
        worth("a << 32", 4, 0);
        worth("a << 33", 4, 0);
        worth("a >> 4", 4, 0);
        worth("a >> 64", 4, 0);
        worth("a >> 225", 4, 0);
        worth("a >> 128", 4, 0);
        worth("200 >> b", 8, 3);
        worth("200 >> a", 8, 0);
        worth("a == 13", 1, 1);
        worth("a != 13", 1, 0);
        worth("a < b", 1, 0);
        worth("b <= 6", 1, 1);
        worth("a > 6", 1, 1);
        worth("b >= 200", 1, 0);
        worth("!a", 1, 0);
        worth("!0", 1, 1);
        worth("~b", 4, 9);
        worth("-b", 4, 10);
        worth("-0", 1, 0);
        worth("-1", 1, 1);
        worth("~2", 2, 1);
        worth("a && b", 1, 1);
        worth("a && 0", 1, 0);
        worth("0 || b", 1, 1);
        worth("a - 13 || b - 6", 1, 0);
        worth("b ? 1 : 200", 8, 1);
        worth("b - 6 ? 200 : a", 8, 13);
        worth("a > b ? 2 : b > a ? 3 : 4", 3, 2);
        worth("0 ? 2 : 0 ? 3 : 4", 3, 4);
        worth("1 ? 0 ? 5 : 6 : 7", 3, 6);
        worth("a - b - 1", 4, 6);
        worth("a - (b - 1)", 4, 8);
        worth("a / b * 2", 4, 4);
        worth("1 + 2 * 3", 2, 3);
        worth("8 | 1 ^ 3 & 2 == 2", 4, 8);
        worth("8 | 1 ^ 9", 4, 8);
        worth("1 ^ 9 | 8", 4, 8);
        worth("1 ^ 3 & 2", 2, 3);
        worth("3 & 2 == 2", 2, 1);
        worth("1 || 1 && 0", 1, 1);
        worth("1 | 0 && 0", 1, 0);
        worth("2 == 2 < 3", 1, 0);
        worth("2 < 3 == 1", 1, 1);
        worth("1 < 4 >> 2", 1, 0);
        worth("16 >> 1 + 1", 5, 16);
        worth("7 - 2 * 3", 3, 5);
        worth("1 < 2 == 1", 1, 1);
        worth("a << 1 + 1", 4, 13);
        worth("a << (1 | 2)", 4, 8);
        worth("a + b << 1", 4, 6);
        worth("1 || 0 && 0", 1, 1);
        worth("0 && 0 || 1", 1, 1);
        worth("-a * 2", 4, 6);
        worth("!a + 1", 1, 1);
        worth("~-b", 4, 5);
        worth("!!b", 1, 1);
        worth("2 < 3 < 1", 1, 0);
        worth("255 + 1", 8, 0);
        worth("128 + 128", 8, 0);
        worth("1 + 1", 1, 0);
    }

    /** Promise 16. */
    private static void value() {
        ProofHall hall = Hall.with("input a:2; var x:4; var y:3; x = 9; assert a; y = 12;");
        due("16: 0 without a run", () -> hall.value(0), 0);
        due("16: run", hall::run, 1);
        due("16: as it was when it failed", () -> hall.value(0), 9);
        due("16: what wasn't set is 0", () -> hall.value(1), 0);
        due("16: set", () -> nothing(() -> hall.set(0, 1)), 0);
        due("16: a question", hall::fails, 1);
        due("16: is no run", () -> hall.value(0), 9);
        due("16: run", hall::run, 0);
        due("16: cut to its width", () -> hall.value(1), 4);
        due("16: no variable 2", () -> hall.value(2), Hall.MISSING);
        due("16: no variable -1", () -> hall.value(-1), Hall.MISSING);
    }

    /** Promise 17. */
    private static void count() {
        ProofHall hall = Hall.with("input a:2; input b:3; var x:4; var y:3; var z:1; assert 1; assert a; assert 1; assert b;");
        int[] want = {0, 0, -1, 2, 3, 4, 32, -1, 0, 0, -1, -1};
        for (int i = 0; i < want.length; i++) {
            int what = i;
            due("17: count(" + i + ")", () -> hall.count(what), want[i]);
        }
        int[] none = {-1, 10, 99, Integer.MIN_VALUE, Integer.MAX_VALUE};
        for (int what : none) {
            due("17: count(" + what + ")", () -> hall.count(what), -1);
        }
        due("17: run", hall::run, 1);
        due("17: failed at", () -> hall.count(7), 1);
        due("17: set", () -> nothing(() -> hall.set(0, 1)), 0);
        due("17: not before the run", () -> hall.count(7), 1);
        due("17: run", hall::run, 1);
        due("17: failed at", () -> hall.count(7), 3);
        due("17: fails", hall::fails, 1);
        due("17: a witness", () -> hall.count(8), 1);
        due("17: none", () -> hall.failsAt(0), 0);
        due("17: no witness", () -> hall.count(8), 0);
        due("17: feed", () -> hall.feed(0, 0, 0, 0, 0), 20);
        due("17: text", () -> hall.count(0), 20);
        due("17: build", hall::build, Hall.REFUSED);
        due("17: fault", () -> hall.count(1), 1);
        due("17: where", () -> hall.count(2), 0);
        due("17: the program is as before", () -> hall.count(6), 32);
        due("17: its run, too", () -> hall.count(7), 3);
        Hall.feed(hall, "var x:1;");
        due("17: build", hall::build, 0);
        due("17: the fault stays", () -> hall.count(1), 1);
        due("17: where it was, too", () -> hall.count(2), 0);
        Hall.feed(hall, "var x:1; y = 1;");
        due("17: build", hall::build, Hall.REFUSED);
        due("17: the latest fault", () -> hall.count(1), 2);
        due("17: its place", () -> hall.count(2), 9);
    }
}
