import java.util.function.IntSupplier;

/** Tests of what the document says of how answers are worked out; some of it shows only inside. */
final class ProofSentences {
    private ProofSentences() {
    }

    /** Questions that need clashes: there are clauses of the gates, and behind the search more than those. */
    static void learns() {
        String[] texts = {"input a:6;input b:6;assert a*b==b*a;", "input a:4;input b:4;input c:4;assert a*(b+c)==a*b+a*c;",
            "input a:8;input b:4;var x:8;x=a%(b+1);assert b==15||x<=b;"};
        for (String text : texts) {
            ProofHall hall = Hall.with(text);
            Hall.due("fails of " + text, hall::fails, 0);
            Hall.must("clauses of gates: " + text, Inside.gateClauses(hall) > 50);
            // One more than the gates' is the demand itself.
            int learned = Inside.clauses(hall) - Inside.gateClauses(hall) - 1;
            Hall.must(learned + " clauses learned: " + text, learned > 10);
            Hall.must(learned + " clauses learned, no more than there are INPUTS: " + text, learned < 4096);
        }
    }

    private static void no(String what, ProofHall hall, IntSupplier question, int answer) {
        int before = Inside.steps(hall);
        Hall.due(what, question, answer);
        int steps = Inside.steps(hall) - before;
        Hall.must(what + " rests on " + steps + " steps", steps >= 1);
        Hall.due(what + ", all of them checked", () -> hall.count(9), 0);
    }

    /** Each kind of question, where it's seen at once and where it isn't. */
    static void everyNo() {
        ProofHall plain = Hall.with("input a:4;var x:4;var y:4;x=a;y=a;assert 1;");
        no("fails", plain, plain::fails, 0);
        no("failsAt", plain, () -> plain.failsAt(0), 0);
        no("differ", plain, () -> plain.differ(0, 1), 0);
        no("differ from itself", plain, () -> plain.differ(0, 0), 0);
        no("can be 16", plain, () -> plain.can(0, 16), 0);
        no("can be -1", plain, () -> plain.can(0, -1), 0);
        ProofHall never = Hall.with("input a:4;var x:4;x=a;assume 0;");
        no("least", never, () -> never.least(0), -1);
        no("greatest", never, () -> never.greatest(0), -1);
        no("ends", never, never::ends, 0);
        no("can", never, () -> never.can(0, 0), 0);
        ProofHall hard = Hall.with("input a:6;input b:6;var x:6;var y:6;x=a*b;y=b*a;assert (a^b)+2*(a&b)==a+b;assume x*a==y*a;");
        no("hard fails", hard, hard::fails, 0);
        no("hard failsAt", hard, () -> hard.failsAt(0), 0);
        no("hard differ", hard, () -> hard.differ(0, 1), 0);
        // That there is none below the least, and none more than were counted, is a "no", too.
        ProofHall some = Hall.with("input a:8;var x:8;x=a*a+3;assume a*a<17;");
        no("nothing below the least", some, () -> some.least(0), 3);
        no("nothing above the greatest", some, () -> some.greatest(0), 19);
        ProofHall few = Hall.with("input a:6;assume a*a==49;");
        no("no more than that end", few, few::ends, 4);
        ProofHall first = Hall.with("input a:6;input b:6;assert a*b!=35||a<2||b<2;");
        no("no lesser WITNESS", first, first::fails, 1);
    }

    /** What must never be is put in by force: count(9) counts all of it, and forgets none. */
    static void countsWrong() {
        ProofHall hall = Hall.with("input a:4;var x:4;x=a+1;assert a!=9;");
        Inside.put(Inside.part(hall, "inquiry", "solver", "checker"), "wrong", 1);
        Hall.due("a step that didn't check", () -> hall.count(9), 1);
        Inside.put(Inside.part(hall, "inquiry", "solver", "clauses"), "lost", 2);
        Hall.due("clauses that were lost", () -> hall.count(9), 3);
        Inside.put(Inside.part(hall, "inquiry"), "wrong", 4);
        Hall.due("answers that weren't models", () -> hall.count(9), 7);
        Inside.put(Inside.part(hall, "inquiry", "encoder", "words", "circuit"), "lost", 8);
        Hall.due("gates that were lost", () -> hall.count(9), 15);
        Hall.due("fails", hall::fails, 1);
        Hall.due("a question that is right counts none", () -> hall.count(9), 15);
        Hall.feed(hall, "assert 0;");
        Hall.due("build", hall::build, 1);
        Hall.due("another PROGRAM takes none away", () -> hall.count(9), 15);
    }

    /** The answers hang on another PROGRAM than the RUNS by which they are tried: none of them is a model. */
    static void noModels() {
        String text = "input a:4;var x:4;var y:4;x=a;assert a!=9;";
        String[] questions = {"fails", "failsAt", "least", "greatest", "differ", "can", "ends"};
        for (int i = 0; i < questions.length; i++) {
            ProofHall hall = Hall.with(text);
            ProofHall other = Hall.with("input a:4;var x:4;var y:4;assume 0;");
            Inside.put(Inside.part(hall, "inquiry"), "program", Inside.part(other, "program"));
            IntSupplier[] calls = {hall::fails, () -> hall.failsAt(0), () -> hall.least(0), () -> hall.greatest(0),
                () -> hall.differ(0, 1), () -> hall.can(0, 3), hall::ends};
            Hall.outcome(calls[i]);
            Hall.must(questions[i] + " isn't tried in a RUN", hall.count(9) > 0);
        }
    }

    /** All that it holds is of its own classes and rows of numbers, and no call makes it more. */
    static void ownRows() {
        ProofHall hall = new ProofHall();
        Hall.must("what a new object holds: " + Inside.foreign(hall), Inside.foreign(hall) == null);
        Hall.feed(hall, "input a:8;var x:8;x=a*a;assert x!=77;");
        hall.build();
        long before = Inside.elements(hall);
        hall.fails();
        hall.greatest(0);
        hall.ends();
        hall.run();
        Hall.feed(hall, "input a:8;var x:8;x=a/a;if(x)x=a;else x=1;while3(x>3)x=x-1;assert x<200;");
        hall.build();
        hall.fails();
        hall.least(0);
        hall.run();
        Hall.must("what it holds then: " + Inside.foreign(hall), Inside.foreign(hall) == null);
        Hall.must("it holds as much as before", Inside.elements(hall) == before);
        Hall.must("it holds " + before, before < 700_000);
    }
}
