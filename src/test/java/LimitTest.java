/** Programs at the limits of what can be built: the most gates, rounds, clashes and text. */
public final class LimitTest {
    /** Found by trial: least and greatest of x learn so much that the room for near cuts is full. */
    static final String[] FAR = {
        "input a:8;input b:4;var x:8;var y:8;x=a*37+b*91+1;y=(a^b*17)+1;x=x*(a+210)-y;x=x+(x-252)-x;y=x/(x^65)+y;y=x+(b|68)^b;"
            + "x=y*(a-165)+y;x=x*(a-139)-x;y=y/(a^194)-x;x=y-(x^143)^y;y=y^(b^133)^x;x=y+(b-52)+a;x=x%(x|157)-y;y=y^(x|75)+a;"
            + "x=y*(y+207)+y;x=x+(x^222)^x;x=x/(b-151)+y;y=y^(a|48)-b;y=x*(x+52)-a;x=y/(y+125)^a;y=x^(x|103)+x;x=x+(b^32)-x;"
            + "y=x*(a|215)+b;assert x!=17||y!=18;",
        "input a:8;input b:4;var x:8;var y:8;x=a*37+b*91+1;y=(a^b*17)+1;y=x/(b-241)^y;x=x+(a^38)^b;y=y^(b|7)+x;y=y+(y+55)+x;"
            + "y=y*(b|148)^b;y=y/(a+35)+b;x=x+(x|94)-y;x=y-(b+210)-b;x=y*(a-11)-x;x=y%(b^47)-x;x=x*(y^253)+a;y=y/(a+14)^x;"
            + "x=x/(y^50)^b;x=y^(x-8)-a;y=y%(x-96)-x;x=x%(x|156)-x;y=x+(b+152)-b;y=y+(a+98)^b;y=y-(y-103)^a;y=x-(x|225)+x;"
            + "y=y+(y-226)-a;y=x-(y^2)+a;assert x!=17||y!=18;"};

    private static String times(String s, int n) {
        return s.repeat(n);
    }

    public static void main(String[] args) {
        String two = "input a:8;input b:4;var x:8;var y:8;";
        String bits = "";
        String zeros = "";
        for (char c = 'a'; c <= 'l'; c++) {
            bits += "input " + c + ":1;";
            zeros += "while0(" + c + "){}";
        }
        // Most gates: division, of all widths.
        compare(two + "x=a;y=a^(b<<4);x=" + times("x/y%", 11) + "x;assert x!=1;");
        compare(two + "x=a;y=b+a;" + times("x=y/x+a;", 17) + "assert x!=1;");
        compare("input a:2;input b:2;var x:2;x=a" + times("/b%a", 180) + ";assert x;");
        compare("input a:1;input b:1;var x:1;x=a" + times("/b%a", 700) + ";assert x;");
        compare(two + "x=a^b;y=b+a;x=" + times("x+y+", 89) + "a;assert x!=1;");
        // Most clashes: each of the 4096 inputs for itself.
        compare("input a:8;input b:4;var x:8;var y:8;x=a*37+b*91+1;y=(a^b*17)+1;x=255%x+y;y=253%(y+x);x=x*y+a;"
            + "y=251/(x+1)+y*3;x=250%(y+1)+b*x;y=x%(a+1)+y*x;x=x*y+7;y=249%(x+1)+y;x=x%(y|1)+a*y;y=y*x+x;x=x*3%(y+1);"
            + "assert x!=17||y!=18;");
        compare("input a:4;input b:4;input c:4;var x:8;x=(a|128)*((b|128)+(c|128));assert x==(a|128)*(b|128)+(a|128)*(c|128);");
        // So many that near cuts have no more room, and far ones take over.
        for (String text : FAR) {
            compare(text);
        }
        // Most rounds, and what in them costs no WORK.
        compare("input a:8;input b:4;var x:8;while 5(x<a)while 8(x<b)x=x+1;");
        compare(bits + "var x:8;x=a*3+b*9+c*21+d*77;while 8(x<200){while 2(x>3){"
            + times("if(x){" + zeros + "while0(x){}}else{" + zeros + "}" + zeros, 7) + "}}");
        compare(bits + "var x:1;x=a;while 8(!x){if(b){" + times("if(c){while0(e){}while0(f){}}else{" + zeros + "}", 7)
            + "}x=x^c;}");
        compare("input a:6;input b:6;" + times("while 8(a){while 8(b){}}", 150));
        compare("input a:6;input b:6;" + times("while 8(a-1){if(b){}else assert a;}", 12));
        compare("input a:6;" + times("while 8(a)", 29) + "{}");
        // Most steps, assertions and items.
        compare("input a:6;" + times(times("if(a)", 30) + "{}", 26));
        compare("input a:6;while0(a){" + times("assert0;", 505) + "}");
        compare("input a:1;var x:1;x=a" + times("^a", 1470) + ";");
        compare("input a:1;assume a" + times("|(a)", 1010) + ";");
        compare("input a:1;assume " + times("a||a&&a|a^a&a==a<a<<a+a*(", 30) + "a" + times(")", 30) + ";");
        Hall.finish();
    }

    private static void compare(String text) {
        String shown = text.length() > 60 ? text.substring(0, 60) + ".." : text;
        ProofHall hall = new ProofHall();
        Reference reference = new Reference();
        Hall.feed(hall, text);
        feed(reference, text);
        Hall.same("build of " + shown, hall::build, reference::build);
        Hall.due("no fault in " + shown, () -> hall.count(1), 0);
        Hall.same("work of " + shown, () -> hall.count(6), () -> reference.count(6));
        Hall.same("fails of " + shown, hall::fails, reference::fails);
        witnesses(shown, hall, reference);
        Hall.same("ends of " + shown, hall::ends, reference::ends);
        Hall.same("run of " + shown, hall::run, reference::run);
        if (hall.count(4) > 0) {
            Hall.same("least of " + shown, () -> hall.least(0), () -> reference.least(0));
            witnesses(shown, hall, reference);
            Hall.same("greatest of " + shown, () -> hall.greatest(0), () -> reference.greatest(0));
            witnesses(shown, hall, reference);
        }
        Hall.due("mistakes of " + shown, () -> hall.count(9), 0);
    }

    private static void witnesses(String shown, ProofHall hall, Reference reference) {
        for (int i = 0; i < hall.count(3); i++) {
            int which = i;
            Hall.same("witness of " + shown, () -> hall.witness(which), () -> reference.witness(which));
        }
        Hall.same("count(8) of " + shown, () -> hall.count(8), () -> reference.count(8));
    }

    private static void feed(Reference reference, String text) {
        byte[] bytes = Hall.bytes(text);
        for (int i = 0; i < bytes.length && i + 20 <= 4080; i += 20) {
            int[] n = Hall.five(bytes, i);
            reference.feed(n[0], n[1], n[2], n[3], n[4]);
        }
        if (bytes.length > 4080) {
            reference.end(4080 - (bytes.length - 20));
            int[] n = Hall.five(bytes, bytes.length - 20);
            reference.feed(n[0], n[1], n[2], n[3], n[4]);
        } else {
            reference.end((20 - bytes.length % 20) % 20);
        }
    }
}
