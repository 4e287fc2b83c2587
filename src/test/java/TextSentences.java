import java.util.function.IntSupplier;

/**
 * Tests of what the document's "Terms" say of TEXT, TOKENS, the grammar, DEPTH, FAULTS and WORK, at
 * each boundary and on both sides of it. A $ in a text stands before the TOKEN at which the fault is.
 */
final class TextSentences {
    private static final String[][] LOOSEST_FIRST = {{"||"}, {"&&"}, {"|"}, {"^"}, {"&"}, {"==", "!="},
        {"<", "<=", ">", ">="}, {"<<", ">>"}, {"+", "-"}, {"*", "/", "%"}};
    private static final String[] WORDS = {"input", "var", "if", "else", "while", "assert", "assume"};

    private static void due(String what, IntSupplier call, long want) {
        Hall.due(what, call, want);
    }

    private static void good(String text) {
        Hall.good(text);
    }

    private static void syntax(String text) {
        Hall.faultAt(text, 1);
    }

    private static String times(String s, int n) {
        return s.repeat(n);
    }

    private static String filled(String start, String end, int length) {
        return start + times(" ", length - start.length() - end.length()) + end;
    }

    static void textLength() {
        for (int length = 4095; length <= 4096; length++) {
            ProofHall hall = Hall.with(filled("var x:8;x=7;", "x=9;", length));
            due("run of " + length + " bytes", hall::run, 0);
            due("all of " + length + " bytes are read", () -> hall.value(0), 9);
            Hall.fault(filled("var x:8;", "x=9", length), 1, length);
            Hall.fault(filled("var x:8;", "@", length), 1, length - 1);
        }
        // As many TOKENS as bytes.
        good(times("{}", 2047));
        good(times("{}", 2048));
        Hall.fault(times("{}", 2047) + "{", 1, 4095);
        Hall.fault(times("{}", 2047) + "{{", 1, 4096);
        Hall.fault(times("{}", 2047) + "{)", 1, 4095);
        Hall.fault(times("{}", 2047) + "}}", 1, 4094);
        for (int length = 4075; length <= 4077; length++) {
            ProofHall hall = new ProofHall();
            Hall.feed(hall, filled("", "", length));
            due("20 more than " + length, () -> hall.feed(0, 0, 0, 0, 0), length == 4077 ? Hall.BEYOND : length + 20);
        }
    }

    static void blanks() {
        good(" \n\n input\na\n:\n3\n;\n\nassert a+ \n 1 ; \n");
        good("input a:3;assert a+1;");
        good(" ");
        good("\n");
        good("assert 1;");
        good("assert\n1;");
        int[] others = {0, 7, 8, 9, 11, 12, 13, 14, 31, 34, 127, 160, 255};
        for (int other : others) {
            Hall.fault("assert" + (char) other + "1;", 1, 6);
            Hall.fault((char) other + "assert1;", 1, 0);
        }
        syntax("as $sert 1;");
        syntax("assert 1 $2;");
        syntax("assert 1 < $< 2;");
        syntax("var x:1;x=1 $= = 1;");
    }

    static void asLongAsItGoes() {
        syntax("inputa$:1;");
        syntax("inputif$:1;");
        syntax("varx$:1;");
        syntax("ifa$(1){}");
        syntax("assertx$;");
        syntax("var x:1;x=1$x;");
        syntax("var x$1:1;");
        syntax("$12=1;");
        String[] doubles = {"==", "!=", "<=", ">=", "<<", ">>", "&&", "||"};
        for (String both : doubles) {
            good("assert 1" + both + "1;");
            good("assert 1" + both + "!1;");
            syntax("assert 1" + both + "$" + both.charAt(1) + "1;");
            boolean alone = both.charAt(0) != '=' && both.charAt(0) != '!';
            syntax("assert 1" + (alone ? "" : "$") + both.charAt(0) + " " + (alone ? "$" : "") + both.charAt(1) + "1;");
        }
        syntax("assert 1<$>1;");
        syntax("assert 1>$<1;");
        syntax("assert 1 $=<1;");
        syntax("assert 1 $=>1;");
        syntax("assert 1 $=!1;");
        syntax("assert 1&$|1;");
        syntax("assert 1|$&1;");
        syntax("assert $!=1;");
        good("assert 1--1;");
        good("assert 1-~-!1;");
        // && is one TOKEN: behind & the next & could not stand.
        ProofHall hall = Hall.with("input a:2;input b:2;var x:4;var y:4;x=a&&b;y=a&b;");
        hall.set(0, 1);
        hall.set(1, 2);
        hall.run();
        due("1 && 2", () -> hall.value(0), 1);
        due("1 & 2", () -> hall.value(1), 0);
        ProofHall digits = Hall.with("var x:8;x=12+3;");
        digits.run();
        due("12 is one NUMBER", () -> digits.value(0), 15);
    }

    static void words() {
        good("input a:1;");
        good("var a:1;");
        good("if(1){}");
        good("if(1){}else{}");
        good("while1(1){}");
        good("assert 1;");
        good("assume 1;");
        for (String word : WORDS) {
            String longer = word + "s";
            String shorter = word.substring(0, word.length() - 1);
            good("var " + longer + ":1;" + longer + "=1;assert " + longer + ";");
            good("var " + shorter + ":1;" + shorter + "=1;assert " + shorter + ";");
            syntax("$" + Character.toUpperCase(word.charAt(0)) + word.substring(1) + " a:1;");
        }
        good("var then:1;then=1;");
        good("var for:1;for=1;");
    }

    static void noWord() {
        for (String word : WORDS) {
            syntax("var $" + word + ":1;");
            syntax("input $" + word + ":1;");
            syntax("assert $" + word + ";");
            syntax("assert 1+$" + word + ";");
        }
        syntax("$else{}");
        syntax("$else=1;");
        syntax("if$=1;");
        syntax("{$var=1;}");
        syntax("{$input=1;}");
    }

    static void letters() {
        for (char c = 'a'; c <= 'z'; c++) {
            good("var " + c + ":1;" + c + "=1;");
            good("var " + c + c + ":1;" + c + c + "=1;");
        }
        syntax("var $`:1;");
        syntax("var ${:1;");
        syntax("var $A:1;");
        syntax("var $Z:1;");
        syntax("var $_:1;");
        syntax("var a$_:1;");
        // az and ba, b and bz: no two NAMES are taken for one.
        good("var a:1;var az:1;var ba:1;var b:1;var zz:1;var z:1;var aa:1;var aaaaaaaa:1;var zzzzzzzz:1;");
    }

    static void nameLength() {
        syntax("var $:1;");
        good("var a:1;a=1;");
        good("var abcdefg:1;abcdefg=1;");
        good("var abcdefgh:1;abcdefgh=1;");
        good("var zzzzzzzz:1;zzzzzzzz=1;");
        syntax("var $abcdefghi:1;");
        syntax("var $zzzzzzzzz:1;");
        syntax("$abcdefghi=1;");
        syntax("assert $abcdefghi;");
        syntax("assert 1+$abcdefghijklmnopqrstuvwxyz;");
        Hall.faultAt("var abcdefgh:1;$abcdefgi=1;", 2);
        Hall.faultAt("var abcdefgh:1;$abcdefg=1;", 2);
        Hall.faultAt("var abcdefgh:1;$bcdefgh=1;", 2);
        // 13 letters of five bits each are more than 64 bits.
        syntax("var aaaaaaaa:1;$" + times("a", 13) + "=1;");
        syntax("var a:1;$" + times("a", 300) + "=1;");
    }

    static void numbers() {
        int[] some = {0, 1, 9, 10, 99, 100, 199, 200, 249, 250, 254, 255};
        for (int n : some) {
            ProofHall hall = Hall.with("var x:8;x=" + n + ";");
            hall.run();
            due("the NUMBER " + n, () -> hall.value(0), n);
        }
        String[] above = {"256", "257", "260", "300", "999", "1000", "2550", "65536", "65791", "4294967295",
            "4294967296", "4294967297", "18446744073709551616", "1" + times("0", 200), times("9", 400)};
        for (String n : above) {
            syntax("var x:8;x=$" + n + ";");
            syntax("var x:$" + n + ";");
            syntax("while$" + n + "(1){}");
        }
        ProofHall zeros = Hall.with("var x:8;x=" + times("0", 50) + "255;");
        zeros.run();
        due("zeros before it", () -> zeros.value(0), 255);
        syntax("var x:8;x=$" + times("0", 50) + "256;");
        syntax("var x:8;x=$/1;");
        syntax("var x:8;x=$:1;");
    }

    /** What stands between two NUMBERS tells what each of all bytes is. */
    static void signs() {
        for (int b = 0; b < 256; b++) {
            String text = "assert 1" + (char) b + "1;";
            boolean digit = b >= '0' && b <= '9';
            boolean between = b != 0 && "+-*/%&|^<>".indexOf(b) >= 0;
            boolean blank = b == 32 || b == 10;
            if (digit || between) {
                good(text);
            } else {
                Hall.fault(text, 1, blank ? 9 : b == ';' ? 9 : b == '?' ? 10 : 8);
            }
        }
        good("var x:1;{x=(1)?!x:~x;}");
        String[] doubles = {"==", "!=", "<=", ">=", "<<", ">>", "&&", "||"};
        for (String both : doubles) {
            good("assert 1" + both + "1;");
        }
        for (int b = 0; b < 256; b++) {
            boolean before = b == '!' || b == '~' || b == '-';
            boolean fine = before || b >= '0' && b <= '9' || b == 32 || b == 10;
            String text = "assert " + (char) b + "1;";
            if (fine) {
                good(text);
            } else {
                Hall.fault(text, 1, b >= 'a' && b <= 'z' ? 8 : b == '(' ? 9 : 7);
            }
        }
    }

    static void declarationsFirst() {
        good("");
        good("var x:1;");
        good("input x:1;");
        good("{}");
        good("var x:1;input a:1;var y:1;input b:1;{}");
        syntax("{}$var x:1;");
        syntax("{}$input x:1;");
        syntax("var x:1;x=1;$var y:1;");
        syntax("{$var x:1;}");
        syntax("if(1)$var x:1;");
    }

    /** The TOKENS of a form, all of them due: it ends too early, or another stands in the place of each. */
    private static void form(String before, String... tokens) {
        String[] others = {")", ":", "=", "}", "*", "@"};
        good(before + String.join(" ", tokens));
        good(before + String.join("\n", tokens) + " ");
        for (int i = 0; i < tokens.length; i++) {
            StringBuilder start = new StringBuilder(before);
            StringBuilder rest = new StringBuilder();
            for (int j = 0; j < tokens.length; j++) {
                (j < i ? start : rest).append(j == i ? "" : tokens[j]).append(j == i ? "" : " ");
            }
            String last = i == 0 ? "" : tokens[i - 1];
            // Behind a } the STATEMENT is whole, and without any TOKEN it's a PROGRAM, too.
            if (i > 0 && !last.equals("}")) {
                syntax(start + "$");
            }
            for (String other : others) {
                // A * goes on with an EXPR, and it's the next that can't.
                boolean operator = other.equals("*") && (last.equals("0") || last.equals("1") || last.equals(")"));
                if (!other.equals(tokens[i]) && !operator) {
                    syntax(start + "$" + other + " " + rest);
                }
            }
        }
    }

    static void declarationForm() {
        form("", "var", "x", ":", "1", ";");
        form("", "input", "x", ":", "1", ";");
        form("var y:1;", "input", "x", ":", "1", ";");
        syntax("var x $1;");
        syntax("var x:1 $var y:1;");
        syntax("var $:1;");
        syntax("var x:$;");
        syntax("var x:$x;");
        syntax("var x:$(1);");
        syntax("var x:1$+1;");
        syntax("var $1:1;");
        syntax("var x:1;x$:1;");
        syntax("var x:1;$;");
        syntax("var x:1$,y:1;");
        syntax("var x $y:1;");
    }

    static void settingForm() {
        form("var x:1;", "x", "=", "1", ";");
        form("var x:1;", "x", "=", "(", "1", ")", ";");
        syntax("var x:1;$(x)=1;");
        syntax("var x:1;x=1$=1;");
        syntax("var x:1;x$+=1;");
        syntax("var x:1;$1=x;");
        due("it's set", () -> left("input a:2;var x:2;x=a;", 3), 3);
    }

    static void ifForm() {
        form("", "if", "(", "1", ")", "assert", "1", ";");
        form("", "if", "(", "1", ")", "{", "}", "else", "{", "}", "assert", "1", ";");
        syntax("if $1){}");
        syntax("if(1 ${}");
        syntax("if(1 $assert 1;");
        syntax("if($){}");
        syntax("if(1)$");
        syntax("if(1)$else{}");
        syntax("if(1){}else$");
        syntax("if(1){}$;else{}");
        good("if(1)assert 1;else assert 1;");
        good("if(1){assert 1;assert 1;}else{assert 1;assert 1;}");
        syntax("if(1)assert 1;assert 1;$else assert 1;");
        for (int i = 0; i < 4; i++) {
            int a = i;
            due("without else", () -> left("input a:2;var x:4;x=9;if(a)x=a;", a), a == 0 ? 9 : a);
            due("with else", () -> left("input a:2;var x:4;if(a)x=a;else x=8;", a), a == 0 ? 8 : a);
            due("one STATEMENT alone", () -> left("input a:2;var x:4;if(a==2)x=1;x=x+1;", a), a == 2 ? 2 : 1);
            due("behind else one alone", () -> left("input a:2;var x:4;if(a==2)x=1;else x=2;x=x+1;", a), a == 2 ? 2 : 3);
        }
    }

    static void whileForm() {
        form("", "while", "1", "(", "0", ")", "assert", "1", ";");
        form("", "while", "1", "(", "0", ")", "{", "}", "assert", "1", ";");
        syntax("while$(1){}");
        syntax("while $x(1){}");
        syntax("while 1 $1(1){}");
        syntax("while1($){}");
        syntax("while1 $1){}");
        syntax("while1(1 ${}");
        syntax("while1(1 $assert 1;");
        syntax("while1(1)$");
        syntax("while1(1){}$else{}");
        syntax("while1 ${}");
        due("one STATEMENT alone", () -> left("input a:2;var x:4;while3(x<2)x=x+1;x=x+5;", 0), 7);
        due("a block", () -> left("input a:2;var x:4;var y:4;while3(y<2){x=x+3;y=y+1;}", 0), 6);
    }

    static void assertForm() {
        form("", "assert", "1", ";");
        form("", "assert", "(", "1", ")", ";");
        syntax("assert$;");
        syntax("assert 1$,1;");
        syntax("assert 1 $assert 1;");
    }

    static void assumeForm() {
        form("", "assume", "1", ";");
        form("", "assume", "(", "1", ")", ";");
        syntax("assume$;");
        syntax("assume 1 $assume 1;");
        due("it has no number", () -> Hall.with("assume 1;assert 1;assume 1;").count(5), 1);
    }

    static void primary() {
        String start = "input a:4;var x:8;x=";
        due("a NAME", () -> left(start + "a;", 9), 9);
        due("a NUMBER", () -> left(start + "77;", 9), 77);
        due("( )", () -> left(start + "(a);", 9), 9);
        due("(( ))", () -> left(start + "((a)+((1)));", 9), 10);
        due("( ? : )", () -> left(start + "(a?3:4)*2;", 9), 6);
        due("not without ( )", () -> left(start + "a?3:4*2;", 9), 3);
        syntax(start + "($);");
        syntax(start + "($;");
        syntax(start + "(1$;");
        syntax(start + "(1 $1);");
        syntax(start + "(1$};");
        syntax(start + "${1};");
        syntax(start + "a$(1);");
        syntax(start + "1$a;");
        syntax(start + "a $a;");
        syntax(start + "$if;");
        syntax(start + "(a)$(a);");
        syntax(start + "a$:1;");
    }

    static void widths() {
        String[] kinds = {"var", "input"};
        for (String kind : kinds) {
            for (int w = 1; w <= 8; w++) {
                good(kind + " x:" + w + ";");
            }
            Hall.faultAt(kind + " x:$0;", 5);
            Hall.faultAt(kind + " x:$9;", 5);
            Hall.faultAt(kind + " x:$10;", 5);
            Hall.faultAt(kind + " x:$255;", 5);
            syntax(kind + " x:$256;");
            syntax(kind + " x:$-1;");
            good(kind + " x:008;");
            Hall.faultAt(kind + " x:$000;", 5);
            Hall.faultAt(kind + " x:$009;", 5);
        }
    }

    static void numberedApart() {
        ProofHall hall = Hall.with("var x:8;input a:2;var y:8;input b:3;var z:8;input c:4;x=a;y=b;z=c;");
        hall.set(0, 1);
        hall.set(1, 2);
        hall.set(2, 3);
        hall.run();
        for (int i = 0; i < 3; i++) {
            int v = i;
            due("VARIABLE " + v, () -> hall.value(v), v + 1);
        }
        due("INPUTS", () -> hall.count(3), 3);
        due("VARIABLES", () -> hall.count(4), 3);
    }

    private static int left(String text, int a) {
        ProofHall hall = Hall.with(text);
        hall.set(0, a);
        hall.run();
        return hall.value(0);
    }

    static void nearestIf() {
        int[] nearest = {0, 2, 1, 1};
        int[] outer = {2, 0, 1, 1};
        int[] both = {3, 2, 1, 1};
        for (int i = 0; i < 4; i++) {
            int a = i;
            String start = "input a:2;var x:4;";
            due("one else", () -> left(start + "if(a)if(a>1)x=1;else x=2;", a), nearest[a]);
            due("one else, of the outer", () -> left(start + "if(a){if(a>1)x=1;}else x=2;", a), outer[a]);
            due("two", () -> left(start + "if(a)if(a>1)x=1;else x=2;else x=3;", a), both[a]);
            due("in a loop", () -> left(start + "if(a)while0(0){}else x=2;", a), a == 0 ? 2 : 0);
            due("behind a loop's if", () -> left(start + "if(a)while1(x==0)if(a>1)x=1;else x=2;else x=3;", a), both[a]);
        }
        syntax("if(1){}else{}$else{}");
        syntax("if(1)if(1){}else{}else{}$else{}");
        syntax("if(1)$else{}");
        syntax("while1(0){}$else{}");
    }

    static void loopNumbers() {
        for (int n = 0; n <= 8; n++) {
            good("while" + n + "(0){}");
        }
        Hall.faultAt("while $9(0){}", 5);
        Hall.faultAt("while $10(0){}", 5);
        Hall.faultAt("while$255(0){}", 5);
        syntax("while$256(0){}");
        syntax("while$(0){}");
        syntax("while$-1(0){}");
        good("while08(0){}");
        Hall.faultAt("while$09(0){}", 5);
    }

    static void assertionNumbers() {
        ProofHall hall = Hall.with("input a:3;if(a==0){}else assert a!=1;{while1(0)assert 0;}assert a!=2;"
            + "if(a==4)assert a!=4;else assert a!=3;");
        due("all are counted", () -> hall.count(5), 5);
        int[] witness = {1, -1, 2, 4, 3};
        for (int i = 0; i < 5; i++) {
            int k = i;
            due("failsAt " + k, () -> hall.failsAt(k), witness[k] < 0 ? 0 : 1);
            due("witness of " + k, () -> hall.witness(0), witness[k] < 0 ? Hall.MISSING : witness[k]);
        }
        hall.set(0, 4);
        hall.run();
        due("the RUN fails at 3", () -> hall.count(7), 3);
    }

    static void blocks() {
        good("{}");
        good("{}{}");
        good("{{}}");
        good("{{}{}}");
        good("if(1){}");
        good("var x:1;{x=1;x=0;}");
        syntax("{$");
        syntax("$}");
        syntax("{}$}");
        syntax("{{}$");
        syntax("{$;}");
        syntax("{if(1)$}");
        due("the empty block does nothing", () -> left("input a:1;var x:1;x=1;{}", 0), 1);
        due("one STATEMENT", () -> left("input a:1;var x:1;{x=1;}", 0), 1);
        due("two", () -> left("input a:1;var x:2;{x=1;x=x+1;}", 0), 2);
    }

    private static int worth(String expr) {
        ProofHall hall = Hall.with("var x:8;x=" + expr + ";");
        hall.run();
        return hall.value(0);
    }

    /** Each of the neighbours, both ways round, where the other reading has another worth. */
    static void strengths() {
        String[] pairs = {
            "1||1&&0 = 1||(1&&0)", "0&&1||1 = (0&&1)||1",
            "1&&2|1 = 1&&(2|1)", "2|1&&0 = (2|1)&&0",
            "1|3^1 = 1|(3^1)", "3^1|1 = (3^1)|1",
            "3^1&2 = 3^(1&2)", "2&1^3 = (2&1)^3",
            "2&3==3 = 2&(3==3)", "3==3&2 = (3==3)&2",
            "0==2<1 = 0==(2<1)", "2<1==0 = (2<1)==0",
            "1<1<<1 = 1<(1<<1)", "2<<1<5 = (2<<1)<5",
            "4<<1+1 = 4<<(1+1)", "1+1<<1 = (1+1)<<1",
            "7-2*3 = 7-(2*3)", "2*3-7 = (2*3)-7",
            "-2*3 = (-2)*3", "!0*4 = (!0)*4", "~5*7 = (~5)*7", "12/-3 = 12/(-3)"};
        for (String pair : pairs) {
            String[] sides = pair.split(" = ");
            due(pair, () -> worth(sides[0]), worth(sides[1]));
        }
        due("1||1&&0", () -> worth("1||1&&0"), 1);
        due("(1||1)&&0", () -> worth("(1||1)&&0"), 0);
        due("2&3==3", () -> worth("2&3==3"), 0);
        due("(2&3)==3", () -> worth("(2&3)==3"), 0);
        due("(2&3)==2", () -> worth("(2&3)==2"), 1);
        due("7-2*3", () -> worth("7-2*3"), 5);
        due("4<<1+1", () -> worth("4<<1+1"), 4);
        due("16>>1+1", () -> worth("16>>1+1"), 16);
        due("1<2==1", () -> worth("1<2==1"), 1);
        due("3&1^1", () -> worth("3&1^1"), 0);
        due("4|3^3", () -> worth("4|3^3"), 4);
        due("3^3|4", () -> worth("3^3|4"), 4);
    }

    /** Any two signs behind one another: for no INPUTS anything else than with the ( ) that are due. */
    static void levels() {
        int[] apart = {0};
        for (int i = 0; i < LOOSEST_FIRST.length; i++) {
            for (int j = 0; j < LOOSEST_FIRST.length; j++) {
                for (String first : LOOSEST_FIRST[i]) {
                    for (String second : LOOSEST_FIRST[j]) {
                        String left = "(a" + first + "b)" + second + "c";
                        String right = "a" + first + "(b" + second + "c)";
                        ProofHall hall = Hall.with("input a:3;input b:3;input c:3;var x:8;var y:8;var z:8;x=a" + first
                            + "b" + second + "c;y=" + (i >= j ? left : right) + ";z=" + (i >= j ? right : left) + ";");
                        due("a" + first + "b" + second + "c", () -> hall.differ(0, 1), 0);
                        apart[0] += hall.differ(0, 2);
                    }
                }
            }
        }
        due("nearly all pairs tell the two readings apart", () -> apart[0] >= 300 ? 1 : apart[0], 1);
    }

    static void fromTheLeft() {
        String[] pairs = {"9-3-2 = (9-3)-2", "9-3+2 = (9-3)+2", "24/4/2 = (24/4)/2", "24/4*2 = (24/4)*2",
            "25%7%3 = (25%7)%3", "7*5%3 = (7*5)%3", "64>>1>>2 = (64>>1)>>2", "96>>2<<1 = (96>>2)<<1",
            "1<2<2 = (1<2)<2", "3>2>1 = (3>2)>1", "2>=2<=0 = (2>=2)<=0", "2==2==1 = (2==2)==1",
            "3!=2==2 = (3!=2)==2", "0!=0!=1 = (0!=0)!=1"};
        String[] others = {"9-(3-2)", "9-(3+2)", "24/(4/2)", "24/(4*2)", "25%(7%3)", "7*(5%3)", "64>>(1>>2)",
            "96>>(2<<1)", "1<(2<2)", "3>(2>1)", "2>=(2<=0)", "2==(2==1)", "3!=(2==2)", "0!=(0!=1)"};
        int apart = 0;
        for (int i = 0; i < pairs.length; i++) {
            String[] sides = pairs[i].split(" = ");
            due(pairs[i], () -> worth(sides[0]), worth(sides[1]));
            apart += worth(sides[0]) != worth(others[i]) ? 1 : 0;
        }
        int told = apart;
        due("most differ from the other way", () -> told >= 11 ? 1 : 0, 1);
    }

    static void choices() {
        due("1?2:3", () -> worth("1?2:3"), 2);
        due("0?2:3", () -> worth("0?2:3"), 3);
        due("1?0?4:5:6", () -> worth("1?0?4:5:6"), 5);
        due("0?4:0?5:6", () -> worth("0?4:0?5:6"), 6);
        due("0?4:1?5:6", () -> worth("0?4:1?5:6"), 5);
        due("1?4:1?5:6", () -> worth("1?4:1?5:6"), 4);
        due("0||1?4:5", () -> worth("0||1?4:5"), 4);
        due("1?4:5||1", () -> worth("1?4:5||1"), 4);
        due("(1?4:5)||1", () -> worth("(1?4:5)||1"), 1);
        due("2+(1?4:5)", () -> worth("2+(1?4:5)"), 6);
        syntax("var x:1;x=1?1$;");
        syntax("var x:1;x=1?$:1;");
        syntax("var x:1;x=1?1:$;");
        syntax("var x:1;x=$?1:1;");
        syntax("var x:1;x=1?1:1$:1;");
        syntax("var x:1;x=(1?1$):1;");
        syntax("var x:1;x=1?(1$:1);");
        syntax("var x:1;x=1$:1;");
    }

    static void signsBefore() {
        due("!0", () -> worth("!0"), 1);
        due("!!2", () -> worth("!!2"), 1);
        due("~~5", () -> worth("~~5"), 5);
        due("--5", () -> worth("--5"), 5);
        due("-~5", () -> worth("-~5"), 6);
        due("~-5", () -> worth("~-5"), 4);
        due("!0*4, not !(0*4)", () -> worth("!0*4"), 4);
        due("~5*7, not ~(5*7)", () -> worth("~5*7"), 6);
        due("-3%2, not -(3%2)", () -> worth("-3%2"), 1);
        due("8- -3", () -> worth("8- -3"), 7);
        due("8-!3", () -> worth("8-!3"), 8);
        due("-(5)", () -> worth("-(5)"), 3);
        due("!(0)&&1", () -> worth("!(0)&&1"), 1);
        syntax("assert 1$!;");
        syntax("assert 1$~1;");
        syntax("assert !$;");
        syntax("assert -$);");
        syntax("assert $+1;");
    }

    static void atMostThirty() {
        exprDepth("(", ")");
        exprDepth("1+(", ")");
        exprDepth("!", "");
        exprDepth("~", "");
        exprDepth("-", "");
        statementDepth("{", "}");
    }

    static void questionDepth() {
        exprDepth("1?", ":1");
        exprDepth("1?1:", "");
        // What is asked stands where the ? does, and so does the : that is read.
        good("assert " + times("(", 29) + "1?1:1" + times(")", 29) + ";");
        Hall.fault("assert " + times("(", 30) + "1?1:1" + times(")", 30) + ";", 1, 7 + 30 + 2);
        Hall.fault("assert " + times("(", 29) + "1?(1):1" + times(")", 29) + ";", 1, 7 + 29 + 3);
        Hall.fault("assert " + times("(", 29) + "1?1:(1)" + times(")", 29) + ";", 1, 7 + 29 + 5);
        good("assert " + times("(", 29) + "(1)?1:1" + times(")", 29) + ";");
    }

    /** 29, 30 and 31 of what opens a depth of an EXPR, for itself and in 29 and 30 blocks. */
    private static void exprDepth(String open, String close) {
        String start = "var x:1;x=";
        for (int n = 29; n <= 31; n++) {
            String text = start + times(open, n) + "1" + times(close, n) + ";";
            if (n <= 30) {
                good(text);
            } else {
                Hall.fault(text, 1, start.length() + beyond(open, n));
            }
        }
        for (int n = 28; n <= 30; n++) {
            String before = times("{", n) + "assert ";
            String text = before + times(open, 2) + "1" + times(close, 2) + ";" + times("}", n);
            if (n + 2 <= 30) {
                good(text);
            } else {
                Hall.fault(text, 1, before.length() + beyond(open, 31 - n));
            }
        }
    }

    /** Where the first TOKEN in n of them is; in a '?' that is its second part. */
    private static int beyond(String open, int n) {
        return open.equals("1?1:") ? 4 * n - 2 : open.length() * n;
    }

    private static void statementDepth(String open, String close) {
        for (int n = 29; n <= 31; n++) {
            String text = times(open, n) + "assert 1;" + times(close, n);
            if (n <= 30) {
                good(text);
            } else {
                Hall.fault(text, 1, open.length() * n);
            }
        }
        good(times(open, 31) + times(close, 31));
        Hall.fault(times(open, 32) + times(close, 32), 1, open.length() * 31);
    }

    static void ifDepth() {
        good(times("if(1)", 29) + "assert 1;");
        good(times("if(1)", 30) + "assert 1;");
        good(times("if(1)", 30) + "{}");
        // The condition of the 31st stands in 30 ifs and its own (.
        Hall.fault(times("if(1)", 31) + "{}", 1, 30 * 5 + 3);
        Hall.fault(times("if(1)", 30) + "{{}}", 1, 30 * 5 + 1);
        Hall.fault(times("if(1)", 30) + "{assert 1;}", 1, 30 * 5 + 1);
        Hall.fault(times("if(1)", 30) + "assert(1);", 1, 30 * 5 + 7);
        good(times("if(1)", 29) + "assert(1);");
        Hall.fault(times("if(1)", 29) + "if((1)){}", 1, 29 * 5 + 4);
        good(times("if(1){}else ", 29) + "assert 1;");
        good(times("if(1){}else ", 30) + "assert 1;");
        good(times("if(1){}else ", 30) + "{}");
        Hall.fault(times("if(1){}else ", 30) + "{{}}", 1, 30 * 12 + 1);
        Hall.fault(times("if(1){}else ", 31) + "{}", 1, 30 * 12 + 3);
        // else itself, and what is behind the if, stand where the if does.
        good(times("{", 29) + "if(1){}else{}assert(1);" + times("}", 29));
        Hall.fault(times("{", 29) + "if(1){}else{assert 1;}" + times("}", 29), 1, 29 + 12);
        Hall.fault(times("{", 29) + "if(1){}else{}assert((1));" + times("}", 29), 1, 29 + 21);
        Hall.fault(times("{", 30) + "if(1){}" + times("}", 30), 1, 33);
    }

    static void whileDepth() {
        good(times("while1(1)", 29) + "assert 1;");
        good(times("while1(1)", 30) + "assert 1;");
        good(times("while1(1)", 30) + "{}");
        Hall.fault(times("while1(1)", 30) + "{{}}", 1, 30 * 9 + 1);
        Hall.fault(times("while1(1)", 31) + "{}", 1, 30 * 9 + 7);
        good(times("{", 29) + "while1(1){}assert(1);" + times("}", 29));
        Hall.fault(times("{", 29) + "while1(1){assert 1;}" + times("}", 29), 1, 29 + 10);
        Hall.fault(times("{", 30) + "while1(1){}" + times("}", 30), 1, 30 + 7);
    }

    static void closers() {
        good("assert" + times("(", 30) + "1" + times(")", 30) + "+1;");
        good(times("{", 31) + times("}", 31));
        good(times("{", 30) + "{}{}" + times("}", 30));
        Hall.fault("assert" + times("(", 31) + "1" + times(")", 31) + ";", 1, 6 + 31);
        Hall.fault("assert" + times("(", 31) + ")", 1, 6 + 31);
        Hall.fault(times("{", 31) + "{", 1, 31);
    }

    static void mixedDepth() {
        String[] openers = {"{", "if(1)", "while1(1)", "if(1){}else "};
        String[] closers = {"}", "", "", ""};
        String[] inner = {"(", "!", "~", "-", "1?", "1?1:"};
        String[] outer = {")", "", "", "", ":1", ""};
        for (int i = 0; i < openers.length; i++) {
            for (int j = 0; j < inner.length; j++) {
                String before = times(openers[i], 15) + "assert ";
                String behind = ";" + times(closers[i], 15);
                good(before + times(inner[j], 14) + "1" + times(outer[j], 14) + behind);
                good(before + times(inner[j], 15) + "1" + times(outer[j], 15) + behind);
                Hall.fault(before + times(inner[j], 16) + "1" + times(outer[j], 16) + behind, 1,
                    before.length() + beyond(inner[j], 16));
            }
        }
    }

    static void closedDepth() {
        good("assert(" + times("1)+(", 800) + "1);");
        good("assert !1" + times("&&!1", 600) + ";");
        good("assert(1?1:1)" + times("+(1?1:1)", 200) + ";");
        good(times("{}", 1000));
        good(times("{{{}}}", 300));
        good(times("if(1){}", 300));
        good(times("if(1){}else{}", 200));
        good(times("while1(0){}", 200));
        good(times("assert !!!1;", 100));
        good("assert -" + times("1- -", 31) + "1;");
    }

    /** Of TOKENS of several bytes, and with blanks before them, the first byte. */
    static void firstByte() {
        syntax(" \n $<<1;");
        syntax("assert 1 \n $while;");
        syntax("assert \n $256;");
        syntax("assert\n\n  $abcdefghi;");
        syntax("assert 1  $12 ;");
        Hall.faultAt(" \n $abc = 1;", 2);
        Hall.faultAt("assert  1+\n$abcdefgh ;", 2);
        Hall.faultAt("var abc : 1; var \n  $abc : 1;", 3);
        Hall.faultAt("input abc:1;\n\n $abc = 1;", 4);
        Hall.faultAt("var abc : \n $100 ;", 5);
        Hall.faultAt("while   $010 (1) {}", 5);
        Hall.faultAt("input abc : 8 ; input \n $def : 8 ;", 6);
        Hall.faultAt("$ab=1;", 2);
    }

    static void firstToken() {
        syntax("$)");
        syntax("var x:1;$)x=1;");
        syntax("var x:1;x$)=1;");
        syntax("var x:1;x=$)1;");
        syntax("var x:1;x=1$);");
        syntax("var x:1;x=1;$)");
        syntax("var x:1;x=1 $) ) @ 999;");
        syntax("if $1){}");
        syntax("if(1$;{}");
        syntax("if(1)$;");
        syntax("while 1$){}");
        syntax("while$(");
        syntax("assert$;");
        syntax("assume$;");
        syntax("assert 1$}");
        syntax("$=1;");
        syntax("$1;");
        syntax("$;");
        syntax("$(1);");
        syntax("$:");
        syntax("var x:1;x$:1;");
        syntax("var x:1;x$==1;");
        syntax("var x $1;");
        syntax("var x:1 $x=1;");
    }

    static void atTheEnd() {
        String[] parts = {"assert", "assert 1", "assert(", "assert(1", "assert 1+", "assert !", "assert 1?", "assert 1?1",
            "assert 1?1:", "if", "if(", "if(1", "if(1)", "if(1){}else", "while", "while1", "while1(", "while1(1",
            "while1(1)", "{", "x", "x=", "x=1", "var", "input", "assert 1==", "assert 1!=", "assert 1<=", "assert 1>=",
            "assert 1<<", "assert 1>>", "assert 1&&", "assert 1||", "assert 1<", "assert 1>", "assert 1&", "assert 1|"};
        for (String part : parts) {
            Hall.fault(part, 1, part.length());
            Hall.fault(part + " ", 1, part.length() + 1);
            Hall.fault(part + " \n\n", 1, part.length() + 3);
            Hall.fault("  " + part, 1, part.length() + 2);
        }
        good("if(1){}");
        good("if(1){} ");
    }

    static void foreignBytes() {
        for (int b = 0; b < 256; b++) {
            boolean letter = b >= 'a' && b <= 'z';
            boolean digit = b >= '0' && b <= '9';
            boolean sign = b != 0 && ";:(){}=?!~+-*/%&|^<>".indexOf(b) >= 0;
            if (!letter && !digit && !sign && b != 32 && b != 10) {
                Hall.fault("{}" + (char) b, 1, 2);
                Hall.fault("{}{" + (char) b + "}", 1, 3);
                Hall.fault("assert 1+" + (char) b + "1;", 1, 9);
                Hall.fault("var x" + (char) b + ":1;", 1, 5);
            }
        }
        // One behind what can't go on anyway isn't come to.
        syntax("assert $);@");
        syntax("assert 1;$@)");
    }

    static void firstOfSyntax() {
        syntax("assert $256+abcdefghi@;");
        syntax("assert $abcdefghi+256@;");
        syntax("assert $@+256;");
        syntax("assert 1 $1 256;");
        syntax("assert " + times("(", 31) + "$256;");
        syntax("assert " + times("(", 30) + "$256;");
        syntax("assert " + times("(", 31) + "$1 256;");
        syntax("assert $256" + times("(", 40) + ";");
        syntax("assert " + times("(", 20) + "$);");
        syntax(times("{", 31) + "$abcdefghi");
        syntax(times("{", 31) + "}$");
        syntax("x=$256;y=1;");
    }

    static void firstInText() {
        Hall.faultAt("$x=y;", 2);
        Hall.faultAt("input a:1;$a=b;", 4);
        Hall.faultAt("input a:1;var x:1;x=$b;a=1;", 2);
        Hall.faultAt("input a:1;$a=1;while9(b){}", 4);
        Hall.faultAt("while$9(b){}", 5);
        Hall.faultAt("while1($b)while9(1){}", 2);
        Hall.faultAt("var x:1;var $x:9;", 3);
        Hall.faultAt("var x:$9;var x:1;x=1;y=1;", 5);
        Hall.faultAt("input a:8;input $b:5;var b:9;", 6);
        Hall.faultAt("input a:8;var x:$0;input b:5;", 5);
        Hall.faultAt("var x:1;var $x:1;y=1;while9(1){}", 3);
        // SYNTAX goes before them wherever it is.
        syntax("x=y;while9(1){}$)");
        syntax("var x:9;var x:9;input a:8;input b:8;a=1$");
        syntax("input a:1;a=b $b;");
        // And they before WORK.
        Hall.faultAt("var x:1;" + times("while8(x)", 10) + "$y=1;", 2);
        Hall.faultAt("input a:8;assert " + times("a*", 30) + "a;$a=1;", 4);
    }

    static void undeclared() {
        Hall.faultAt("$x=1;", 2);
        good("var x:1;x=1;");
        Hall.faultAt("var x:1;x=$y;", 2);
        Hall.faultAt("var x:1;x=x+$y;", 2);
        Hall.faultAt("var x:1;x=-$y;", 2);
        Hall.faultAt("var x:1;x=($y);", 2);
        Hall.faultAt("var x:1;x=1?$y:1;", 2);
        Hall.faultAt("var x:1;x=1?1:$y;", 2);
        Hall.faultAt("if($y){}", 2);
        Hall.faultAt("while0($y){}", 2);
        Hall.faultAt("assert $y;", 2);
        Hall.faultAt("assume $y;", 2);
        Hall.faultAt("if(0){}else $y=1;", 2);
        Hall.faultAt("var x:1;$y=1;", 2);
        Hall.faultAt("var x:1;assert $xx;", 2);
        syntax("x=1;$var x:1;");
    }

    static void twice() {
        good("var x:1;var y:1;");
        Hall.faultAt("var x:1;var $x:1;", 3);
        Hall.faultAt("var x:1;input $x:1;", 3);
        Hall.faultAt("input x:1;input $x:1;", 3);
        Hall.faultAt("input x:1;var $x:1;", 3);
        Hall.faultAt("var x:1;var y:1;var $x:1;var y:1;", 3);
        good("var abcdefgh:1;var abcdefgi:1;var bbcdefgh:1;");
    }

    static void inputSet() {
        Hall.faultAt("input a:1;$a=1;", 4);
        good("input a:1;var x:1;x=a;");
        Hall.faultAt("input a:1;var x:1;x=a;{if(1)$a=x;}", 4);
        Hall.faultAt("var x:1;input a:1;x=1;$a=1;", 4);
    }

    static void impossible() {
        Hall.faultAt("var x:$0;", 5);
        good("var x:1;");
        good("var x:8;");
        Hall.faultAt("var x:$9;", 5);
        Hall.faultAt("input x:$0;", 5);
        Hall.faultAt("input x:$9;", 5);
        good("while0(1){}");
        good("while8(1){}");
        Hall.faultAt("while $9 (1){}", 5);
        Hall.faultAt("{if(1){}else while $200(1){}}", 5);
    }

    static void tooManyBits() {
        good("input a:8;input b:3;");
        good("input a:8;input b:4;");
        Hall.faultAt("input a:8;input $b:5;", 6);
        Hall.faultAt("input a:8;input $b:8;", 6);
        Hall.faultAt("input a:8;input b:4;input $c:1;", 6);
        Hall.faultAt("input a:8;input $b:5;input c:1;", 6);
        StringBuilder bits = new StringBuilder();
        for (char c = 'a'; c <= 'k'; c++) {
            bits.append("input ").append(c).append(":1;");
        }
        good(bits.toString());
        good(bits + "input l:1;");
        Hall.faultAt(bits + "input $l:2;", 6);
        Hall.faultAt(bits + "input l:1;input $m:1;", 6);
        good(bits + "input l:1;var m:8;var n:8;");
    }

    private static String variables(int n) {
        StringBuilder b = new StringBuilder();
        for (int i = 0; i < n; i++) {
            b.append("var ").append((char) ('a' + i)).append(":8;");
        }
        return b.toString();
    }

    static void tooManyVariables() {
        good(variables(11));
        good(variables(12));
        Hall.faultAt(variables(12) + "var $m:1;", 6);
        Hall.faultAt(variables(12) + "var $m:1;var n:1;", 6);
        good(variables(12) + "input m:8;input n:4;");
        Hall.faultAt(variables(12) + "input m:8;input $n:5;", 6);
        Hall.faultAt("input m:8;input n:4;" + variables(12) + "var $o:8;", 6);
    }

    /** Not where its WIDTH is, nor its WORD. */
    static void atTheName() {
        Hall.faultAt("input a:8; input   $bcd   :   5 ;", 6);
        Hall.faultAt("input a:8;\ninput\n$bcd\n:\n8\n;", 6);
        Hall.faultAt(variables(12) + "var   $mno : 1;", 6);
        Hall.faultAt("input a:8;input b:4;var x:1;var y:1;input $c:1;input d:1;", 6);
    }

    /** The DECL that would be too much is told for what else it has, behind the NAME though that is. */
    static void notCounted() {
        Hall.faultAt("input a:8;input b:$9;", 5);
        Hall.faultAt("input a:8;input b:4;input c:$0;", 5);
        Hall.faultAt("input a:8;input $a:8;", 3);
        Hall.faultAt(variables(12) + "var m:$9;", 5);
        Hall.faultAt(variables(12) + "var m:$0;", 5);
        Hall.faultAt(variables(12) + "var $a:1;", 3);
        Hall.faultAt("var x:1;var $x:9;", 3);
    }

    /** 8 for each, and one for each sign of one bit. */
    private static String worth(int asserts, int more) {
        return times("assert 1;", asserts - 1) + "assert 1" + times("+1", more) + ";";
    }

    static void tooMuchWork() {
        for (int more = 3; more <= 5; more++) {
            String text = worth(187, more);
            ProofHall hall = new ProofHall();
            Hall.feed(hall, text);
            due("WORK " + (1496 + more), hall::build, more == 5 ? Hall.REFUSED : 187);
            due("the fault of WORK " + (1496 + more), () -> hall.count(1), more == 5 ? 7 : 0);
            due("where of WORK " + (1496 + more), () -> hall.count(2), more == 5 ? text.length() : -1);
            due("WORK told", () -> hall.count(6), more == 5 ? 0 : 1496 + more);
        }
        // All of it in one EXPR, which is no Setting, assert or assume.
        String[] forms = {"if(1", "while0(1", "while1(0){}if(1"};
        for (String form : forms) {
            int[] much = {1498, 1499, 1500, 1501, 1502, 1508, 1600, 1800};
            for (int n : much) {
                String text = form + times("+1", n) + "){}";
                if (n <= 1500) {
                    workIs(text, n);
                } else {
                    Hall.fault(text, 7, text.length());
                }
            }
        }
        Hall.fault(worth(187, 5) + "  \n", 7, worth(187, 5).length() + 3);
        Hall.fault(filled(worth(187, 5), "", 4096), 7, 4096);
        // In loops, in ifs, and so much that it would wrap around.
        String rounds = "var x:1;while8(x){" + worth(21, 3) + "}";
        workIs(rounds + worth(8, 3), 1499);
        workIs(rounds + worth(8, 4), 1500);
        Hall.fault(rounds + worth(8, 5), 7, rounds.length() + worth(8, 5).length());
        String branches = "var x:1;if(x){" + worth(90, 4) + "}else{" + worth(88, 0) + "}";
        workIs(branches + worth(7, 7), 1499);
        workIs(branches + worth(8, 0), 1500);
        Hall.fault(branches + worth(8, 1), 7, branches.length() + worth(8, 1).length());
        for (int n = 2; n <= 29; n++) {
            String text = "var x:8;" + times("while8(x)", n) + "x=1;";
            if (n == 2) {
                good(text);
            } else {
                Hall.fault(text, 7, text.length());
            }
        }
        String wide = "input a:8;assert a" + times("*a", 2000) + ";";
        Hall.fault(wide, 7, wide.length());
        good(times("while8(1)", 30) + "{}");
        good("var x:1;while0(x)while8(x)while8(x)while8(x)while8(x)x=1;");
    }

    static void squaredWork() {
        signWork(new String[] {"*", "/", "%"}, 2);
    }

    static void fourfoldWork() {
        signWork(new String[] {"<<", ">>"}, 1);
    }

    static void singleWork() {
        signWork(new String[] {"+", "-", "&", "|", "^", "==", "!=", "<", "<=", ">", ">=", "&&", "||"}, 0);
    }

    private static void workIs(String text, int much) {
        due("WORK of " + text, () -> Hall.with(text).count(6), much);
    }

    static void greatestWidth() {
        String start = "input a:3;input b:8;assert ";
        workIs(start + "a+b;", 16);
        workIs(start + "b+a;", 16);
        workIs(start + "a+a;", 11);
        workIs(start + "a<b;", 16);
        workIs(start + "a==a;", 11);
        workIs(start + "(a<b)+(a<b);", 8 + 8 + 8 + 1);
        workIs(start + "a<<b;", 40);
        workIs(start + "b>>a;", 40);
        workIs(start + "(a<<b)+(a<<b);", 8 + 32 + 32 + 3);
        workIs(start + "a*255;", 72);
        workIs(start + "a*127;", 8 + 49);
        workIs(start + "a*7;", 8 + 9);
        workIs(start + "a*8;", 8 + 16);
        workIs(start + "1*0;", 9);
        workIs(start + "b?1:1;", 16);
        workIs(start + "1?a:b;", 16);
        workIs(start + "1?b:a;", 16);
        workIs(start + "(b?1:1)+(b?1:1);", 8 + 8 + 8 + 1);
    }

    private static void signWork(String[] signs, int form) {
        for (String sign : signs) {
            for (int w = 1; w <= 8; w++) {
                int least = form == 2 ? w * w : form == 1 ? 4 * w : w;
                workIs("input a:" + w + ";assert a" + sign + "a;", 8 + least);
                workIs("input a:" + w + ";input b:1;assert a" + sign + "b;", 8 + least);
                workIs("input a:" + w + ";input b:1;assert b" + sign + "a;", 8 + least);
            }
        }
    }

    static void otherWork() {
        for (int w = 1; w <= 8; w++) {
            workIs("input a:" + w + ";assert !a;", 8 + w);
            workIs("input a:" + w + ";assert ~a;", 8 + w);
            workIs("input a:" + w + ";assert -a;", 8 + w);
            workIs("input a:" + w + ";assert !!a;", 8 + w + 1);
            workIs("input a:" + w + ";assert ~-a;", 8 + 2 * w);
            workIs("input a:" + w + ";assert a?0:0;", 8 + w);
            workIs("input a:" + w + ";assert 0?a:0;", 8 + w);
            workIs("input a:" + w + ";assert 0?0:a;", 8 + w);
        }
    }

    static void noWork() {
        workIs("", 0);
        workIs("{}{{}}", 0);
        workIs("input a:8;var x:8;", 0);
        workIs("input a:8;while0(a){}while0(255){}", 0);
        workIs("input a:8;if(a){}", 0);
        workIs("input a:8;assert a;", 8);
        workIs("assert((((255))));", 8);
    }

    static void simpleWork() {
        workIs("var x:1;x=255;", 8);
        workIs("var x:8;x=1;", 8);
        workIs("var x:1;x=x+255;", 16);
        workIs("assert 1;", 8);
        workIs("assert 1+1;", 9);
        workIs("assume 1;", 8);
        workIs("assume 1+1;", 9);
        workIs("var x:1;var y:1;x=1;assert 1;assume 1;", 24);
        workIs("{{assert 1;}assume 1;}", 16);
    }

    static void ifWork() {
        for (int n = 0; n <= 12; n++) {
            workIs(variables(n) + "if(1){}", 8 * n);
            workIs(variables(n) + "if(1+1){}else{}", 1 + 8 * n);
            workIs(variables(n) + "if(1+1)assert 1;", 9 + 8 * n);
            workIs(variables(n) + "if(1+1){}else assume 1+1;", 10 + 8 * n);
            workIs(variables(n) + "if(1)assert 1;else if(1)assert 1;else assert 1;", 24 + 16 * n);
        }
        workIs("input a:8;input b:4;if(a<b){}", 8);
    }

    static void whileWork() {
        for (int n = 0; n <= 8; n++) {
            workIs("while" + n + "(1){}", 0);
            workIs("while" + n + "(1+1){}", n + 1);
            workIs("while" + n + "(1)assert 1;", 8 * n);
            workIs("while" + n + "(1+1)assert 1+1;", n * 10 + 1);
            workIs("var x:1;while" + n + "(x){}", n * 8);
            workIs("var x:1;var y:1;while" + n + "(!x)x=1;", n * 25 + 1);
            workIs("var x:1;while" + n + "(x)while2(x+x)x=1;", n * (2 * (1 + 8 + 8) + 1 + 8));
            workIs("var x:1;while2(x+x)while" + n + "(x)x=1;", 2 * (n * 16 + 1 + 8) + 1);
        }
    }
}
