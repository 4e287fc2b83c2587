/**
 * The document from its first line to its last, in its own words: each sentence, or each part of one
 * that says something for itself, has a test that fails if it's broken, and no word is left out.
 */
public final class DocumentTest {
    private static final Document DOCUMENT = new Document();

    private DocumentTest() {
    }

    public static void main(String[] args) {
        whatItIs();
        Hall.heading("## Terms");
        tokens();
        grammar();
        expressions();
        depth();
        faults();
        values();
        runs();
        work();
        witness();
        refusals();
        texts();
        questions();
        inputs();
        count();
        notPromised();
        DOCUMENT.covered(Hall.words());
        Hall.finish();
    }

    private static void whatItIs() {
        Hall.heading("# ProofHall");
        Hall.heading("## What it is");
        Hall.sentence("A verifier of small programs: whether an assertion can fail for any inputs, which values variables can"
            + " have in the end, for which least inputs", CallSentences::allQuestions);
        Hall.sentence("worked out by clauses and a search that learns", ProofSentences::learns);
        Hall.sentence("whose every \"no\" comes with a proof that is checked step by step.", ProofSentences::everyNo);
        Hall.sentence("An object is used for at most 512 calls after it has been made", CallSentences::manyCalls);
        Hall.sentence("what later calls answer is free.", CallSentences::laterCalls);
        Hall.heading("## The public face");
        Hall.sentence("", DOCUMENT::asInTheFace, DOCUMENT::asInThePromises);
    }

    private static void tokens() {
        Hall.sentence("TEXT: at most 4096 bytes.", TextSentences::textLength);
        Hall.sentence("TOKENS, blanks (32, 10) between them or none", TextSentences::blanks);
        Hall.sentence("each as long as it goes", TextSentences::asLongAsItGoes);
        Hall.sentence("WORDS input, var, if, else, while, assert, assume", TextSentences::words);
        Hall.sentence("NAMES: a .. z", TextSentences::letters);
        Hall.sentence("1 to 8", TextSentences::nameLength);
        Hall.sentence("no WORD", TextSentences::noWord);
        Hall.sentence("NUMBERS: digits, 0 .. 255", TextSentences::numbers);
        Hall.sentence("signs ; : ( ) { } = ? ! ~ + - * / % & | ^ < > and == != <= >= << >> && ||.", TextSentences::signs);
    }

    private static void grammar() {
        Hall.sentence("PROGRAM: DECL* STATEMENT*.", TextSentences::declarationsFirst);
        Hall.sentence("DECL: ('input' | 'var') NAME ':' NUMBER ';'", TextSentences::declarationForm);
        Hall.sentence("its WIDTH, 1 .. 8", TextSentences::widths);
        Hall.sentence("INPUTS and VARIABLES, numbered each from 0.", TextSentences::numberedApart);
        Hall.sentence("STATEMENT: NAME '=' EXPR ';'", TextSentences::settingForm);
        Hall.sentence("'if' '(' EXPR ')' STATEMENT ('else' STATEMENT)?", TextSentences::ifForm, RunSentences::oneOrTheOther);
        Hall.sentence("of the nearest if", TextSentences::nearestIf);
        Hall.sentence("'while' NUMBER '(' EXPR ')' STATEMENT", TextSentences::whileForm);
        Hall.sentence("0 .. 8", TextSentences::loopNumbers);
        Hall.sentence("'assert' EXPR ';'", TextSentences::assertForm);
        Hall.sentence("numbered from 0 as they stand", TextSentences::assertionNumbers);
        Hall.sentence("'assume' EXPR ';'", TextSentences::assumeForm);
        Hall.sentence("'{' STATEMENT* '}'.", TextSentences::blocks);
    }

    private static void expressions() {
        Hall.sentence("EXPR: OR ('?' EXPR ':' EXPR)?", TextSentences::choices);
        Hall.sentence("OR and so on, loosest first", TextSentences::strengths);
        Hall.sentence("each from the left", TextSentences::fromTheLeft);
        Hall.sentence("|| ; && ; | ; ^ ; & ; == != ; < <= > >= ; << >> ; + - ; * / %", TextSentences::levels);
        Hall.sentence("then ! ~ - before it", TextSentences::signsBefore);
        Hall.sentence("PRIMARY: NAME, NUMBER, '(' EXPR ')'.", TextSentences::primary);
    }

    private static void depth() {
        Hall.sentence("DEPTH of a TOKEN: the ( { ? if while and ! ~ - before that it's in, or is part of what's behind",
            TextSentences::mixedDepth, TextSentences::closedDepth);
        Hall.sentence("of if, while: STATEMENTS, that behind else, too", TextSentences::ifDepth, TextSentences::whileDepth);
        Hall.sentence("of ?: both EXPRS", TextSentences::questionDepth);
        Hall.sentence(") and } aren't in theirs", TextSentences::closers);
        Hall.sentence("at most 30.", TextSentences::atMostThirty);
    }

    private static void faults() {
        Hall.sentence("FAULTS, WHERE the TOKEN is (its first byte's number)", TextSentences::firstByte);
        Hall.sentence("1 SYNTAX: the first TOKEN with which it can't go on", TextSentences::firstToken);
        Hall.sentence("TEXT's length, if it's the end", TextSentences::atTheEnd);
        Hall.sentence("also a byte that begins none", TextSentences::foreignBytes);
        Hall.sentence("a NUMBER above 255, a NAME above 8, too deep", TextSentences::firstOfSyntax);
        Hall.sentence("Else the first in TEXT of", TextSentences::firstInText);
        Hall.sentence("2 a NAME that isn't declared before", TextSentences::undeclared);
        Hall.sentence("3 declared twice", TextSentences::twice);
        Hall.sentence("4 what's set is an INPUT", TextSentences::inputSet);
        Hall.sentence("5 a WIDTH, or a while's NUMBER, that can't be", TextSentences::impossible);
        Hall.sentence("6 INPUTS of more than 12 bits together", TextSentences::tooManyBits);
        Hall.sentence("or more than 12 VARIABLES", TextSentences::tooManyVariables);
        Hall.sentence("at the NAME with which it's so", TextSentences::atTheName);
        Hall.sentence("a DECL with 3 or 5 declares nothing and isn't counted", TextSentences::notCounted);
        Hall.sentence("Else 7: WORK above 1500 (TEXT's length).", TextSentences::tooMuchWork);
    }

    private static void values() {
        Hall.sentence("VALUES have a WIDTH w and are 0 .. 2^w - 1.", RunSentences::ranges);
        Hall.sentence("A NUMBER: the least WIDTH that has it, 1 at least.", RunSentences::numberWidths);
        Hall.sentence("+ - * & | ^: the greater WIDTH of both, cut to it", RunSentences::greaterWidth, RunSentences::outcomes);
        Hall.sentence("/ cut downwards, by 0: 2^w - 1", RunSentences::divisions, RunSentences::byNothing);
        Hall.sentence("and %, by 0: the first, likewise.", RunSentences::rests, RunSentences::byNothing);
        Hall.sentence("<< >>: the first one's WIDTH", RunSentences::shifts, RunSentences::outcomes);
        Hall.sentence("by as much or more: 0.", RunSentences::farShifts);
        Hall.sentence("== != < <= > >= ! && ||: 1 bit (of numbers; 0 or not).", RunSentences::oneBit, RunSentences::outcomes);
        Hall.sentence("~ -: its WIDTH.", RunSentences::itsWidth);
        Hall.sentence("?: the greater WIDTH of the second and third.", RunSentences::choices, RunSentences::outcomes);
        Hall.sentence("What's set is cut to its VARIABLE's WIDTH.", RunSentences::cutToWidth);
    }

    private static void runs() {
        Hall.sentence("A RUN for INPUTS: VARIABLES are 0 at first", RunSentences::zeroAtFirst);
        Hall.sentence("STATEMENTS in order.", RunSentences::inOrder);
        Hall.sentence("assert of 0: it FAILS, there.", RunSentences::failsThere);
        Hall.sentence("assume of 0: it's OUT.", RunSentences::isOut);
        Hall.sentence("while n: as long as EXPR isn't 0, but at most n times", RunSentences::atMost, RunSentences::loopsInLoops,
            RunSentences::deepLoops);
        Hall.sentence("isn't it then (EXPR once more; for n 0 once): OUT.", RunSentences::onceMore, RunSentences::manyZeros);
        Hall.sentence("Else it ENDS.", RunSentences::itEnds);
    }

    private static void work() {
        Hall.sentence("WORK: of an operation with w, the greatest WIDTH of its outcome and operands", TextSentences::greatestWidth);
        Hall.sentence("* / %: w times w", TextSentences::squaredWork);
        Hall.sentence("<< >>: 4 w", TextSentences::fourfoldWork);
        Hall.sentence("others: w", TextSentences::singleWork, TextSentences::otherWork);
        Hall.sentence("NAMES, NUMBERS none.", TextSentences::noWork);
        Hall.sentence("Setting, assert, assume: its EXPR's and 8.", TextSentences::simpleWork);
        Hall.sentence("if: its EXPR's, both STATEMENTS', and 8 for each VARIABLE.", TextSentences::ifWork);
        Hall.sentence("while n: n times (its EXPR's, STATEMENT's, 8 for each VARIABLE), and its EXPR's.", TextSentences::whileWork);
    }

    private static void witness() {
        Hall.sentence("INPUTS all together are a number, the first one highest.", CallSentences::firstHighest);
        Hall.sentence("The WITNESS of a question is the least such number", CallSentences::leastNumber);
        Hall.sentence("0 without INPUTS", CallSentences::withoutInputs);
        Hall.sentence("of a RUN as asked for", CallSentences::asAskedFor);
        Hall.sentence("none: there's no WITNESS (the one before is gone, too).", CallSentences::goneToo);
    }

    private static void refusals() {
        Hall.sentence("\"Bad\" is IllegalArgumentException", CallSentences::bad);
        Hall.sentence("\"missing\" java.util.NoSuchElementException.", CallSentences::missing);
        Hall.sentence("REFUSED, which comes first, is IllegalStateException: no PROGRAM, or as said.", CallSentences::noProgram);
        Hall.sentence("A refused call changes nothing, but as said.", CallSentences::changesNothing);
        Hall.sentence("All memory is the class's own rows.", ProofSentences::ownRows);
        Hall.sentence("Of several exceptions of a call the one that its words name first is thrown, if they do not say otherwise.",
            CallSentences::namedFirst);
    }

    private static void texts() {
        Hall.heading("## Promise 1: A new object");
        Hall.sentence("No PROGRAM, TEXT is empty.", CallSentences::newObject);
        Hall.heading("## Promise 2: feed");
        Hall.sentence("TEXT gets the twenty bytes of the numbers more, of each the highest first.", CallSentences::twentyBytes);
        Hall.sentence("More than 4096: IndexOutOfBoundsException.", CallSentences::tooLong);
        Hall.sentence("Answers its length.", CallSentences::feedAnswers);
        Hall.heading("## Promise 3: end");
        Hall.sentence("The last n bytes of TEXT go (0 or more, as many must be there; else bad).", CallSentences::lastGo,
            CallSentences::goneBytes);
        Hall.sentence("Answers its length.", CallSentences::endAnswers);
        Hall.heading("## Promise 4: build");
        Hall.sentence("TEXT is the PROGRAM now", CallSentences::programNow, CallSentences::behindFaults, CallSentences::behindFull);
        Hall.sentence("and is empty then, whatever happens.", CallSentences::emptyThen);
        Hall.sentence("A FAULT: REFUSED, the one before stays, with its INPUTS, WITNESS and RUN.", CallSentences::oneBeforeStays);
        Hall.sentence("INPUTS are 0, there's no WITNESS, no RUN.", CallSentences::allAnew);
        Hall.sentence("Answers how many assertions.", CallSentences::howMany);
    }

    private static void questions() {
        Hall.heading("## Promise 5: fails");
        Hall.sentence("Whether any RUN FAILS: 1, with the WITNESS, or 0.", CallSentences::anyFails);
        Hall.heading("## Promise 6: failsAt");
        Hall.sentence("Whether a RUN FAILS at assertion k: 1, with the WITNESS, or 0.", CallSentences::failsThere);
        Hall.sentence("No such one: missing.", CallSentences::noSuchAssertion);
        Hall.heading("## Promise 7: least");
        Hall.sentence("The least VALUE that VARIABLE v has when a RUN ENDS; its WITNESS.", CallSentences::leastValue);
        Hall.sentence("No RUN ENDS: -1.", CallSentences::noneEnds);
        Hall.sentence("No such VARIABLE: missing.", CallSentences::noSuchVariable);
        Hall.heading("## Promise 8: greatest");
        Hall.sentence("The greatest one, likewise.", CallSentences::greatestValue, CallSentences::noneEnds,
            CallSentences::noSuchVariable);
        Hall.heading("## Promise 9: differ");
        Hall.sentence("Whether a RUN ENDS with VARIABLES v and w not the same: 1, with the WITNESS, or 0", CallSentences::notTheSame);
        Hall.sentence("also if v is w", CallSentences::withItself);
        Hall.sentence("One isn't there: missing.", CallSentences::oneMissing);
        Hall.heading("## Promise 10: can");
        Hall.sentence("Whether a RUN ENDS with VARIABLE v being x (any int): 1, with the WITNESS, or 0.", CallSentences::anyInt);
        Hall.sentence("No such VARIABLE: missing.", CallSentences::canMissing);
        Hall.heading("## Promise 11: ends");
        Hall.sentence("How many RUNS (of all INPUTS) END, at most 20 are counted.", CallSentences::atMostTwenty);
        Hall.sentence("No WITNESS then.", CallSentences::noWitnessThen);
    }

    private static void inputs() {
        Hall.heading("## Promise 12: witness");
        Hall.sentence("INPUT i of the WITNESS.", CallSentences::witnessThere);
        Hall.sentence("Not there: missing.", CallSentences::witnessMissing);
        Hall.heading("## Promise 13: set");
        Hall.sentence("INPUT i is x (cut to its WIDTH) in RUNS from now on.", CallSentences::setIsCut);
        Hall.sentence("Not there: missing.", CallSentences::setMissing);
        Hall.heading("## Promise 14: take");
        Hall.sentence("INPUTS are those of the WITNESS.", CallSentences::takesAll);
        Hall.sentence("None: missing.", CallSentences::nothingToTake);
        Hall.heading("## Promise 15: run");
        Hall.sentence("A RUN.", CallSentences::oneRun);
        Hall.sentence("Answers 0 if it ENDS, 1 if it FAILS, 2 if it's OUT.", CallSentences::runAnswers);
        Hall.heading("## Promise 16: value");
        Hall.sentence("VARIABLE v as the latest RUN left it (as it was when it FAILED, was OUT)", CallSentences::asLeft);
        Hall.sentence("0 without.", CallSentences::zeroWithout);
        Hall.sentence("Not there: missing.", CallSentences::valueMissing);
    }

    private static void count() {
        Hall.heading("## Promise 17: count");
        Hall.sentence("TEXT's length (0)", CallSentences::countsText);
        Hall.sentence("the latest FAULT (1, 0 before any; a build without one leaves it)", CallSentences::countsFaults);
        Hall.sentence("its WHERE (2, -1 before any)", CallSentences::countsWhere);
        Hall.sentence("of the PROGRAM: INPUTS (3), VARIABLES (4), assertions (5), WORK (6), each 0 without one",
            CallSentences::countsProgram);
        Hall.sentence("the assertion at which the latest RUN FAILED (7), -1 without", CallSentences::countsFailed);
        Hall.sentence("1 if there's a WITNESS (8)", CallSentences::countsWitness);
        Hall.sentence("steps of proofs that didn't check, and answers that weren't models, which must never be (9)",
            CallSentences::countsNever, ProofSentences::countsWrong, ProofSentences::noModels);
        Hall.sentence("else -1.", CallSentences::countsElse);
    }

    /** What is free can't be broken; that an object is no other one's business is held all the same. */
    private static void notPromised() {
        Hall.heading("## Not promised");
        Hall.sentence("How the state is held inside the object is free, as are the speed of each call, the text of toString and"
            + " the behaviour of equals and hashCode.");
        Hall.sentence("Use of one object from several threads at once is not promised to be safe.", CallSentences::twoObjects);
        Hall.sentence("Nothing is promised beyond the answers and state changes described above, and nothing about an object after"
            + " its 512th call.");
    }
}
