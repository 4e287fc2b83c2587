import java.util.Arrays;
import java.util.NoSuchElementException;

/**
 * A verifier of small programs: a program becomes a circuit, a question about it becomes clauses,
 * and a search that learns answers it; every step by which it comes to a "no" is checked.
 */
public final class ProofHall {
    private static final int TEXT_LIMIT = 4096;
    private static final int WORK_LIMIT = 1500;
    private static final int DEPTH_LIMIT = 30;
    private static final int BITS = 8;
    private static final int INPUT_BITS = 12;
    private static final int VARIABLES = 12;
    private static final int LOOP_LIMIT = 8;
    private static final int ENDS_COUNTED = 20;

    /** In each of 31 depths at most ten signs wait, one of each strength, and what opened it. */
    private static final int STACK = 400;

    /**
     * Far above the steps of any RUN: WORK lets loops have 187 rounds, of at most 2048 steps. Without
     * VARIABLES they have no WORK, but then one that has begun is OUT behind its rounds, 8 at most.
     */
    private static final int MANY_STEPS = 1_000_000;

    private static final int FAULT_SYNTAX = 1;
    private static final int FAULT_UNKNOWN = 2;
    private static final int FAULT_TWICE = 3;
    private static final int FAULT_INPUT_SET = 4;
    private static final int FAULT_NUMBER = 5;
    private static final int FAULT_TOO_MANY = 6;
    private static final int FAULT_WORK = 7;

    // Signs between two operands.
    private static final int OR_ELSE = 1;
    private static final int AND_ALSO = 2;
    private static final int BIT_OR = 3;
    private static final int BIT_XOR = 4;
    private static final int BIT_AND = 5;
    private static final int EQUAL = 6;
    private static final int UNEQUAL = 7;
    private static final int LESS = 8;
    private static final int AT_MOST = 9;
    private static final int MORE = 10;
    private static final int AT_LEAST = 11;
    private static final int LEFT = 12;
    private static final int RIGHT = 13;
    private static final int PLUS = 14;
    private static final int MINUS = 15;
    private static final int TIMES = 16;
    private static final int OVER = 17;
    private static final int REST = 18;

    // Signs before one operand, the choice among two, and operands.
    private static final int NOT = 19;
    private static final int COMPLEMENT = 20;
    private static final int NEGATE = 21;
    private static final int CHOOSE = 22;
    private static final int NUMBER = 23;
    private static final int INPUT = 24;
    private static final int VARIABLE = 25;

    // Tokens that are no part of an expression's code.
    private static final int NAME = 30;
    private static final int ASSIGN = 31;
    private static final int SEMICOLON = 32;
    private static final int COLON = 33;
    private static final int QUESTION = 34;
    private static final int OPEN = 35;
    private static final int CLOSE = 36;
    private static final int OPEN_BRACE = 37;
    private static final int CLOSE_BRACE = 38;
    private static final int WORD_INPUT = 39;
    private static final int WORD_VAR = 40;
    private static final int WORD_IF = 41;
    private static final int WORD_ELSE = 42;
    private static final int WORD_WHILE = 43;
    private static final int WORD_ASSERT = 44;
    private static final int WORD_ASSUME = 45;
    private static final int FINISH = 46;
    private static final int BAD = 47;

    // How tightly the signs from || to the - before an operand hold, by their numbers.
    private static final int[] STRENGTH = {0, 1, 2, 3, 4, 5, 6, 6, 7, 7, 7, 7, 8, 8, 9, 9, 10, 10, 10, 11, 11, 11};

    // What WIDTH an outcome has, by the same numbers, and on to the choice; 0: the greatest of all.
    private static final int ONE_BIT = 1;
    private static final int OF_FIRST = 2;
    private static final int OF_BRANCHES = 3;
    private static final int[] OUTCOME = {0, 1, 1, 0, 0, 0, 1, 1, 1, 1, 1, 1, 2, 2, 0, 0, 0, 0, 0, 1, 0, 0, 3};

    // What WORK an operation is; 0: its WIDTH.
    private static final int FOURFOLD = 1;
    private static final int SQUARED = 2;
    private static final int[] PRICE = {0, 0, 0, 0, 0, 0, 0, 0, 0, 0, 0, 0, 1, 1, 0, 0, 2, 2, 2, 0, 0, 0, 0};

    // What the steps of a PROGRAM do.
    private static final int DO_SET = 1;
    private static final int DO_ASSERT = 2;
    private static final int DO_ASSUME = 3;
    private static final int DO_IF = 4;
    private static final int DO_ELSE = 5;
    private static final int DO_JOIN = 6;
    private static final int DO_LOOP = 7;
    private static final int DO_TEST = 8;
    private static final int DO_AGAIN = 9;

    private static final int ENDED = 0;
    private static final int FAILED = 1;
    private static final int OUT = 2;

    // The two literals of the constant gate.
    private static final int TRUE = 0;
    private static final int FALSE = 1;

    private final Scanner scanner = new Scanner();
    private final Parser parser = new Parser();
    private Program program = new Program();
    private Program draft = new Program();
    private boolean built;
    private int fault;
    private int where = -1;
    private final int[] inputs = new int[INPUT_BITS];
    private final Machine latest = new Machine();
    private final Inquiry inquiry = new Inquiry();

    public ProofHall() {
    }

    public int feed(int a, int b, int c, int d, int e) throws IndexOutOfBoundsException {
        if (scanner.length + 20 > TEXT_LIMIT) {
            throw new IndexOutOfBoundsException();
        }
        scanner.append(a);
        scanner.append(b);
        scanner.append(c);
        scanner.append(d);
        scanner.append(e);
        return scanner.length;
    }

    public int end(int n) throws IllegalArgumentException {
        if (n < 0 || n > scanner.length) {
            throw new IllegalArgumentException();
        }
        scanner.length -= n;
        return scanner.length;
    }

    public int build() throws IllegalStateException {
        scanner.cut();
        parser.begin(scanner, draft);
        parser.conclude(parser.declarations() && parser.statements());
        scanner.length = 0;
        if (draft.fault != 0) {
            fault = draft.fault;
            where = draft.where;
            throw new IllegalStateException();
        }
        Program before = program;
        program = draft;
        draft = before;
        built = true;
        Arrays.fill(inputs, 0);
        latest.forget();
        inquiry.study(program);
        inquiry.encoder.encode(program);
        return program.assertions;
    }

    public int fails() throws IllegalStateException {
        needProgram();
        inquiry.open();
        inquiry.demand(inquiry.encoder.anyFailure);
        inquiry.pose();
        inquiry.look();
        return inquiry.verdict(inquiry.trial.outcome == FAILED);
    }

    public int failsAt(int k) throws IllegalStateException, NoSuchElementException {
        needProgram();
        if (k < 0 || k >= program.assertions) {
            throw new NoSuchElementException();
        }
        inquiry.open();
        inquiry.demand(inquiry.encoder.failures[k]);
        inquiry.pose();
        inquiry.look();
        return inquiry.verdict(inquiry.trial.outcome == FAILED && inquiry.trial.failedAt == k);
    }

    public int least(int v) throws IllegalStateException, NoSuchElementException {
        needProgram();
        needVariable(v);
        return inquiry.extreme(v, 0);
    }

    public int greatest(int v) throws IllegalStateException, NoSuchElementException {
        needProgram();
        needVariable(v);
        return inquiry.extreme(v, 1);
    }

    public int differ(int v, int w) throws IllegalStateException, NoSuchElementException {
        needProgram();
        needVariable(v);
        needVariable(w);
        inquiry.open();
        inquiry.demand(inquiry.encoder.guard);
        inquiry.demand(inquiry.encoder.difference(v, w));
        inquiry.pose();
        inquiry.look();
        Machine trial = inquiry.trial;
        return inquiry.verdict(trial.outcome == ENDED && trial.variables[v] != trial.variables[w]);
    }

    public int can(int v, int x) throws IllegalStateException, NoSuchElementException {
        needProgram();
        needVariable(v);
        inquiry.open();
        inquiry.demand(inquiry.encoder.guard);
        inquiry.demandWorth(v, x);
        inquiry.pose();
        inquiry.look();
        return inquiry.verdict(inquiry.trial.outcome == ENDED && inquiry.trial.variables[v] == x);
    }

    public int ends() throws IllegalStateException {
        needProgram();
        return inquiry.tally();
    }

    public int witness(int i) throws IllegalStateException, NoSuchElementException {
        needProgram();
        if (!inquiry.found || i < 0 || i >= program.inputs) {
            throw new NoSuchElementException();
        }
        return inquiry.witness[i];
    }

    public void set(int i, int x) throws IllegalStateException, NoSuchElementException {
        needProgram();
        if (i < 0 || i >= program.inputs) {
            throw new NoSuchElementException();
        }
        inputs[i] = x & mask(program.inputWidths[i]);
    }

    public void take() throws IllegalStateException, NoSuchElementException {
        needProgram();
        if (!inquiry.found) {
            throw new NoSuchElementException();
        }
        System.arraycopy(inquiry.witness, 0, inputs, 0, program.inputs);
    }

    public int run() throws IllegalStateException {
        needProgram();
        latest.execute(program, inputs);
        return latest.outcome;
    }

    public int value(int v) throws IllegalStateException, NoSuchElementException {
        needProgram();
        needVariable(v);
        return latest.variables[v];
    }

    public int count(int what) {
        switch (what) {
            case 0:
                return scanner.length;
            case 1:
                return fault;
            case 2:
                return where;
            case 3:
                return built ? program.inputs : 0;
            case 4:
                return built ? program.variables : 0;
            case 5:
                return built ? program.assertions : 0;
            case 6:
                return built ? program.work : 0;
            case 7:
                return latest.failedAt;
            case 8:
                return inquiry.found ? 1 : 0;
            case 9:
                return inquiry.mistakes();
            default:
                return -1;
        }
    }

    private void needProgram() {
        if (!built) {
            throw new IllegalStateException();
        }
    }

    private void needVariable(int v) {
        if (v < 0 || v >= program.variables) {
            throw new NoSuchElementException();
        }
    }

    private static int mask(int width) {
        return (1 << width) - 1;
    }

    /** Rows are longer than most questions need, so only what is in use is cleared. */
    private static void wipe(int[] row, int used) {
        for (int i = 0; i < used && i < row.length; i++) {
            row[i] = 0;
        }
    }

    /** Holds TEXT and cuts it into tokens. */
    private static final class Scanner {
        private static final int NAME_LIMIT = 8;
        private static final int NUMBER_LIMIT = 255;
        private static final int TOKENS = TEXT_LIMIT + 1;

        private final byte[] text = new byte[TEXT_LIMIT];
        /** In the order of the tokens' kinds, from WORD_INPUT on. */
        private final long[] words;
        int length;
        private int at;

        private int tokens;
        private final int[] kinds = new int[TOKENS];
        private final int[] starts = new int[TOKENS];
        /** A NUMBER, or the letters of a NAME or WORD, five bits each. */
        private final long[] contents = new long[TOKENS];
        private int current;

        Scanner() {
            words = new long[] {packed("input"), packed("var"), packed("if"), packed("else"), packed("while"),
                packed("assert"), packed("assume")};
        }

        private static long packed(String word) {
            long all = 0;
            for (int i = 0; i < word.length(); i++) {
                all = all * 32 + (word.charAt(i) - 'a' + 1);
            }
            return all;
        }

        void append(int fourBytes) {
            for (int shift = 24; shift >= 0 && length < TEXT_LIMIT; shift -= 8) {
                text[length] = (byte) (fourBytes >> shift);
                length++;
            }
        }

        int kind() {
            return kinds[current];
        }

        int start() {
            return starts[current];
        }

        long name() {
            return contents[current];
        }

        int number() {
            return (int) contents[current];
        }

        /** The last token, FINISH, is never left. */
        void advance() {
            if (current < tokens - 1) {
                current++;
            }
        }

        /** What begins no token is one too, a BAD one: it matters only if the parser comes to it. */
        void cut() {
            at = 0;
            tokens = 0;
            current = 0;
            for (int n = 0; n < TOKENS; n++) {
                while (at < length && (text[at] == ' ' || text[at] == '\n')) {
                    at++;
                }
                starts[tokens] = at;
                contents[tokens] = 0;
                kinds[tokens] = at >= length ? FINISH : isLetter(text[at]) ? word()
                    : isDigit(text[at]) ? digits() : sign();
                tokens++;
                if (kinds[tokens - 1] == FINISH) {
                    return;
                }
            }
        }

        private static boolean isLetter(int sign) {
            return sign >= 'a' && sign <= 'z';
        }

        private static boolean isDigit(int sign) {
            return sign >= '0' && sign <= '9';
        }

        private int word() {
            long letters = 0;
            int start = at;
            while (at < length && isLetter(text[at])) {
                letters = letters * 32 + (text[at] - 'a' + 1);
                at++;
            }
            contents[tokens] = letters;
            if (at - start > NAME_LIMIT) {
                return BAD;
            }
            for (int i = 0; i < words.length; i++) {
                if (words[i] == letters) {
                    return WORD_INPUT + i;
                }
            }
            return NAME;
        }

        private int digits() {
            int number = 0;
            while (at < length && isDigit(text[at])) {
                // Held just above the limit, so that a long row of digits can't wrap around.
                number = Math.min(number * 10 + (text[at] - '0'), NUMBER_LIMIT + 1);
                at++;
            }
            contents[tokens] = number;
            return number > NUMBER_LIMIT ? BAD : NUMBER;
        }

        private int sign() {
            int first = text[at];
            int next = at + 1 < length ? text[at + 1] : 0;
            int both = doubleSign(first, next);
            at += both == BAD ? 1 : 2;
            return both == BAD ? singleSign(first) : both;
        }

        private static int doubleSign(int sign, int next) {
            switch (sign) {
                case '=':
                    return next == '=' ? EQUAL : BAD;
                case '!':
                    return next == '=' ? UNEQUAL : BAD;
                case '<':
                    return next == '=' ? AT_MOST : next == '<' ? LEFT : BAD;
                case '>':
                    return next == '=' ? AT_LEAST : next == '>' ? RIGHT : BAD;
                case '&':
                    return next == '&' ? AND_ALSO : BAD;
                case '|':
                    return next == '|' ? OR_ELSE : BAD;
                default:
                    return BAD;
            }
        }

        private static int singleSign(int sign) {
            switch (sign) {
                case ';':
                    return SEMICOLON;
                case ':':
                    return COLON;
                case '(':
                    return OPEN;
                case ')':
                    return CLOSE;
                case '{':
                    return OPEN_BRACE;
                case '}':
                    return CLOSE_BRACE;
                case '=':
                    return ASSIGN;
                case '?':
                    return QUESTION;
                case '!':
                    return NOT;
                case '~':
                    return COMPLEMENT;
                default:
                    return operatorSign(sign);
            }
        }

        private static int operatorSign(int sign) {
            switch (sign) {
                case '+':
                    return PLUS;
                case '-':
                    return MINUS;
                case '*':
                    return TIMES;
                case '/':
                    return OVER;
                case '%':
                    return REST;
                case '&':
                    return BIT_AND;
                case '|':
                    return BIT_OR;
                case '^':
                    return BIT_XOR;
                case '<':
                    return LESS;
                case '>':
                    return MORE;
                default:
                    return BAD;
            }
        }
    }

    /**
     * A PROGRAM as rows: its NAMES, its steps, and the items of their expressions, operands before
     * operators, so that a long chain of operators needs no recursion.
     */
    private static final class Program {
        static final int NOBODY = -1;

        /** No TEXT has as many steps: ifs one in another give most, two for five bytes. */
        private static final int STEPS = 2048;

        int inputs;
        int inputBits;
        final int[] inputWidths = new int[INPUT_BITS];
        private final long[] inputNames = new long[INPUT_BITS];
        int variables;
        final int[] variableWidths = new int[VARIABLES];
        private final long[] variableNames = new long[VARIABLES];
        int assertions;
        int work;
        int fault;
        int where;

        int steps;
        final int[] action = new int[STEPS];
        final int[] which = new int[STEPS];
        final int[] from = new int[STEPS];
        final int[] till = new int[STEPS];
        final int[] goal = new int[STEPS];

        int items;
        final int[] operation = new int[TEXT_LIMIT];
        final int[] operand = new int[TEXT_LIMIT];
        final int[] width = new int[TEXT_LIMIT];

        void clear() {
            inputs = 0;
            inputBits = 0;
            variables = 0;
            assertions = 0;
            work = 0;
            fault = 0;
            where = -1;
            steps = 0;
            items = 0;
        }

        /** Faults come in the order of TEXT, and the first one counts. */
        void note(int what, int at) {
            if (fault == 0) {
                fault = what;
                where = at;
            }
        }

        /** VARIABLES are told apart from INPUTS by numbers behind all of theirs. */
        int find(long name) {
            for (int i = 0; i < inputs; i++) {
                if (inputNames[i] == name) {
                    return i;
                }
            }
            for (int i = 0; i < variables; i++) {
                if (variableNames[i] == name) {
                    return INPUT_BITS + i;
                }
            }
            return NOBODY;
        }

        boolean addInput(long name, int bits) {
            if (inputBits + bits > INPUT_BITS) {
                return false;
            }
            inputNames[inputs] = name;
            inputWidths[inputs] = bits;
            inputs++;
            inputBits += bits;
            return true;
        }

        boolean addVariable(long name, int bits) {
            if (variables >= VARIABLES) {
                return false;
            }
            variableNames[variables] = name;
            variableWidths[variables] = bits;
            variables++;
            return true;
        }

        /** Adds a step whose expression is all items from the given one on. */
        int addStep(int what, int number, int firstItem) {
            if (steps >= STEPS) {
                return STEPS - 1;
            }
            int step = steps;
            action[step] = what;
            which[step] = number;
            from[step] = firstItem;
            till[step] = items;
            goal[step] = 0;
            steps++;
            return step;
        }
    }

    /** Reads TEXT into a PROGRAM; what is open waits on rows, and how much of it is the DEPTH. */
    private static final class Parser {
        private static final int STUCK = -1;

        private static final int BLOCK = 1;
        private static final int THEN = 2;
        private static final int OTHERWISE = 3;
        private static final int BODY = 4;

        private Scanner scanner;
        private Program program;

        private final int[] kinds = new int[DEPTH_LIMIT + 2];
        private final int[] turns = new int[DEPTH_LIMIT + 2];
        private final int[] rounds = new int[DEPTH_LIMIT + 2];
        private final int[] tests = new int[DEPTH_LIMIT + 2];
        private final int[] insides = new int[DEPTH_LIMIT + 2];
        private int height;
        private int openLoops;

        private final int[] signs = new int[STACK];
        private int signTop;
        private final int[] widths = new int[STACK];
        private int widthTop;
        private int depth;
        private int work;

        void begin(Scanner from, Program into) {
            scanner = from;
            program = into;
            program.clear();
            height = 0;
            openLoops = 0;
        }

        /** SYNTAX goes before all other faults, WORK behind. */
        void conclude(boolean good) {
            if (!good) {
                program.fault = FAULT_SYNTAX;
                program.where = scanner.start();
            } else if (program.work > WORK_LIMIT) {
                program.note(FAULT_WORK, scanner.length);
            }
        }

        private boolean accept(int kind) {
            if (scanner.kind() != kind) {
                return false;
            }
            scanner.advance();
            return true;
        }

        /** Loops in loops would soon be more than a number holds; above the limit all is one. */
        private static int capped(int much) {
            return Math.min(much, WORK_LIMIT + 1);
        }

        boolean declarations() {
            boolean good = true;
            for (int n = 0; n < TEXT_LIMIT && good; n++) {
                if (scanner.kind() != WORD_INPUT && scanner.kind() != WORD_VAR) {
                    return true;
                }
                good = declaration();
            }
            return good;
        }

        private boolean declaration() {
            boolean input = scanner.kind() == WORD_INPUT;
            scanner.advance();
            long name = scanner.name();
            int nameAt = scanner.start();
            if (!accept(NAME) || !accept(COLON)) {
                return false;
            }
            int bits = scanner.number();
            int bitsAt = scanner.start();
            if (!accept(NUMBER) || !accept(SEMICOLON)) {
                return false;
            }
            if (program.find(name) != Program.NOBODY) {
                program.note(FAULT_TWICE, nameAt);
            } else if (bits < 1 || bits > BITS) {
                program.note(FAULT_NUMBER, bitsAt);
            } else if (!(input ? program.addInput(name, bits) : program.addVariable(name, bits))) {
                program.note(FAULT_TOO_MANY, nameAt);
            }
            return true;
        }

        boolean statements() {
            boolean good = true;
            for (int n = 0; n <= TEXT_LIMIT && good; n++) {
                if (height > DEPTH_LIMIT && scanner.kind() != CLOSE_BRACE) {
                    return false;
                }
                switch (scanner.kind()) {
                    case NAME:
                    case WORD_ASSERT:
                    case WORD_ASSUME:
                        good = simple();
                        break;
                    case WORD_IF:
                    case WORD_WHILE:
                        good = fork();
                        break;
                    case OPEN_BRACE:
                        scanner.advance();
                        enter(BLOCK, 0, 0, 0);
                        break;
                    case CLOSE_BRACE:
                        good = closeBlock();
                        break;
                    default:
                        return scanner.kind() == FINISH && height == 0;
                }
            }
            return false;
        }

        private void enter(int kind, int turn, int times, int test) {
            kinds[height] = kind;
            turns[height] = turn;
            rounds[height] = times;
            tests[height] = test;
            insides[height] = 0;
            height++;
        }

        private boolean closeBlock() {
            if (height == 0 || kinds[height - 1] != BLOCK) {
                return false;
            }
            scanner.advance();
            height--;
            finish(insides[height]);
            return true;
        }

        /** A setting, or a claim. */
        private boolean simple() {
            int what = scanner.kind() == NAME ? DO_SET : scanner.kind() == WORD_ASSERT ? DO_ASSERT : DO_ASSUME;
            int number = what == DO_SET ? target() : program.assertions;
            scanner.advance();
            if (what == DO_SET && !accept(ASSIGN)) {
                return false;
            }
            int first = program.items;
            int much = expression(height);
            if (much == STUCK || !accept(SEMICOLON)) {
                return false;
            }
            if (what == DO_ASSERT) {
                program.assertions++;
            }
            program.addStep(what, number, first);
            finish(much + BITS);
            return true;
        }

        private int target() {
            int who = program.find(scanner.name());
            if (who == Program.NOBODY) {
                program.note(FAULT_UNKNOWN, scanner.start());
            } else if (who < INPUT_BITS) {
                program.note(FAULT_INPUT_SET, scanner.start());
            }
            return Math.max(0, who - INPUT_BITS);
        }

        /** An if or a while, up to its first STATEMENT. */
        private boolean fork() {
            boolean loop = scanner.kind() == WORD_WHILE;
            scanner.advance();
            int times = scanner.number();
            if (loop && !loopNumber(times) || !accept(OPEN)) {
                return false;
            }
            int first = program.items;
            int test = expression(height + 1);
            if (test == STUCK || !accept(CLOSE)) {
                return false;
            }
            if (loop) {
                enter(BODY, program.addStep(DO_TEST, openLoops, first), times, test);
                openLoops++;
            } else {
                enter(THEN, program.addStep(DO_IF, 0, first), 0, test);
            }
            return true;
        }

        private boolean loopNumber(int times) {
            int at = scanner.start();
            if (!accept(NUMBER)) {
                return false;
            }
            if (times > LOOP_LIMIT) {
                program.note(FAULT_NUMBER, at);
            }
            int entry = program.addStep(DO_LOOP, times, program.items);
            program.goal[entry] = openLoops;
            return true;
        }

        /** A STATEMENT of so much WORK is at its end, and with it all of which it was the last part. */
        private void finish(int much) {
            int more = much;
            while (height > 0) {
                int top = height - 1;
                insides[top] = capped(insides[top] + more);
                if (kinds[top] == BLOCK) {
                    return;
                }
                if (kinds[top] == THEN && scanner.kind() == WORD_ELSE) {
                    scanner.advance();
                    goOnWithElse(top);
                    return;
                }
                more = kinds[top] == BODY ? closeLoop(top) : closeBranch(top);
                height--;
            }
            program.work = capped(program.work + more);
        }

        private void goOnWithElse(int top) {
            int turn = program.addStep(DO_ELSE, 0, program.items);
            program.goal[turns[top]] = program.steps;
            turns[top] = turn;
            kinds[top] = OTHERWISE;
        }

        private int closeBranch(int top) {
            program.goal[turns[top]] = program.addStep(DO_JOIN, 0, program.items);
            return capped(tests[top] + insides[top] + BITS * program.variables);
        }

        private int closeLoop(int top) {
            int back = program.addStep(DO_AGAIN, 0, program.items);
            program.goal[back] = turns[top];
            program.goal[turns[top]] = program.steps;
            openLoops--;
            return capped(rounds[top] * (tests[top] + insides[top] + BITS * program.variables) + tests[top]);
        }

        /** Reads an EXPR; answers its WORK, or STUCK at the token with which it can't go on. */
        private int expression(int startDepth) {
            depth = startDepth;
            signTop = 0;
            widthTop = 0;
            work = 0;
            boolean good = operand();
            for (int n = 0; n < TEXT_LIMIT && good && follow(); n++) {
                good = operand();
            }
            return good && signTop == 0 ? work : STUCK;
        }

        private boolean operand() {
            for (int n = 0; n <= TEXT_LIMIT && depth <= DEPTH_LIMIT; n++) {
                switch (scanner.kind()) {
                    case NAME:
                        named();
                        scanner.advance();
                        return true;
                    case NUMBER:
                        push(NUMBER, scanner.number(), leastWidth(scanner.number()));
                        scanner.advance();
                        return true;
                    case OPEN:
                    case NOT:
                    case COMPLEMENT:
                        deepen(scanner.kind());
                        break;
                    case MINUS:
                        deepen(NEGATE);
                        break;
                    default:
                        return false;
                }
            }
            return false;
        }

        private static int leastWidth(int number) {
            int bits = 1;
            while (bits < BITS && number >> bits != 0) {
                bits++;
            }
            return bits;
        }

        private void named() {
            int who = program.find(scanner.name());
            if (who == Program.NOBODY) {
                program.note(FAULT_UNKNOWN, scanner.start());
                push(NUMBER, 0, 1);
            } else if (who < INPUT_BITS) {
                push(INPUT, who, program.inputWidths[who]);
            } else {
                push(VARIABLE, who - INPUT_BITS, program.variableWidths[who - INPUT_BITS]);
            }
        }

        private void push(int what, int number, int bits) {
            if (widthTop >= STACK || program.items >= TEXT_LIMIT) {
                return;
            }
            widths[widthTop] = bits;
            widthTop++;
            int item = program.items;
            program.operation[item] = what;
            program.operand[item] = number;
            program.width[item] = bits;
            program.items++;
        }

        private void deepen(int sign) {
            pushSign(sign);
            depth++;
            scanner.advance();
        }

        private void pushSign(int sign) {
            if (signTop < STACK) {
                signs[signTop] = sign;
                signTop++;
            }
        }

        private int topSign() {
            return signTop > 0 ? signs[signTop - 1] : 0;
        }

        /** Goes on behind an operand: whether another one is due. */
        private boolean follow() {
            for (int n = 0; n <= TEXT_LIMIT; n++) {
                int kind = scanner.kind();
                if (kind >= OR_ELSE && kind <= REST) {
                    reduce(STRENGTH[kind]);
                    pushSign(kind);
                    scanner.advance();
                    return true;
                }
                reduce(1);
                if (kind == QUESTION) {
                    deepen(QUESTION);
                    return true;
                }
                reduceChoices();
                if (kind == COLON && topSign() == QUESTION) {
                    signs[signTop - 1] = COLON;
                    scanner.advance();
                    return true;
                }
                if (kind != CLOSE || topSign() != OPEN) {
                    return false;
                }
                signTop--;
                depth--;
                scanner.advance();
            }
            return false;
        }

        /** Applies what waits and holds as tightly as told, or more so. */
        private void reduce(int least) {
            while (signTop > 0 && topSign() <= NEGATE && STRENGTH[topSign()] >= least) {
                if (topSign() >= NOT) {
                    depth--;
                }
                apply(topSign());
                signTop--;
            }
        }

        /** A '?' whose ':' has been read ends where its last EXPR does. */
        private void reduceChoices() {
            while (signTop > 0 && topSign() == COLON) {
                apply(CHOOSE);
                signTop--;
                depth--;
            }
        }

        private void apply(int what) {
            int operands = what == CHOOSE ? 3 : what >= NOT ? 1 : 2;
            if (widthTop < operands) {
                return;
            }
            widthTop -= operands;
            int first = widths[widthTop];
            int second = operands > 1 ? widths[widthTop + 1] : first;
            int third = operands > 2 ? widths[widthTop + 2] : second;
            int widest = Math.max(first, Math.max(second, third));
            int outcome = OUTCOME[what] == ONE_BIT ? 1 : OUTCOME[what] == OF_FIRST ? first
                : OUTCOME[what] == OF_BRANCHES ? Math.max(second, third) : widest;
            push(what, 0, outcome);
            int price = PRICE[what] == SQUARED ? widest * widest : PRICE[what] == FOURFOLD ? 4 * widest : widest;
            work = Math.min(work + price, WORK_LIMIT + 1);
        }
    }

    /** Makes RUNS with numbers. */
    private static final class Machine {
        int outcome;
        int failedAt = -1;
        final int[] variables = new int[VARIABLES];
        private final int[] rounds = new int[DEPTH_LIMIT + 2];
        private final int[] stack = new int[STACK];
        private Program program;
        private int[] inputs;

        void forget() {
            Arrays.fill(variables, 0);
            outcome = ENDED;
            failedAt = -1;
        }

        void execute(Program what, int[] with) {
            forget();
            program = what;
            inputs = with;
            int step = 0;
            for (int n = 0; n < MANY_STEPS && outcome == ENDED && step < program.steps; n++) {
                step = perform(step, worth(program.from[step], program.till[step]));
            }
        }

        /** Answers which step comes next. */
        private int perform(int step, int x) {
            int number = program.which[step];
            switch (program.action[step]) {
                case DO_SET:
                    variables[number] = x & mask(program.variableWidths[number]);
                    break;
                case DO_ASSERT:
                    if (x == 0) {
                        outcome = FAILED;
                        failedAt = number;
                    }
                    break;
                case DO_ASSUME:
                    if (x == 0) {
                        outcome = OUT;
                    }
                    break;
                case DO_IF:
                    return x == 0 ? program.goal[step] : step + 1;
                case DO_ELSE:
                case DO_AGAIN:
                    return program.goal[step];
                case DO_LOOP:
                    rounds[program.goal[step]] = number;
                    break;
                case DO_TEST:
                    return x == 0 ? program.goal[step] : enter(step, number);
                default:
                    break;
            }
            return step + 1;
        }

        private int enter(int step, int slot) {
            if (rounds[slot] == 0) {
                outcome = OUT;
            }
            rounds[slot]--;
            return step + 1;
        }

        private int worth(int from, int till) {
            int top = 0;
            for (int i = from; i < till; i++) {
                int what = program.operation[i];
                int width = program.width[i];
                if (what >= NUMBER && top < STACK) {
                    stack[top] = fetch(what, program.operand[i]);
                    top++;
                } else if (what == CHOOSE && top >= 3) {
                    top -= 2;
                    stack[top - 1] = stack[top - 1] != 0 ? stack[top] : stack[top + 1];
                } else if (what >= NOT && top >= 1) {
                    stack[top - 1] = single(what, stack[top - 1]) & mask(width);
                } else if (top >= 2) {
                    top--;
                    stack[top - 1] = both(what, stack[top - 1], stack[top], width) & mask(width);
                }
            }
            return top > 0 ? stack[0] : 0;
        }

        private int fetch(int what, int number) {
            return what == NUMBER ? number : what == INPUT ? inputs[number] : variables[number];
        }

        private static int truth(boolean is) {
            return is ? 1 : 0;
        }

        private static int single(int what, int x) {
            return what == NOT ? truth(x == 0) : what == COMPLEMENT ? ~x : -x;
        }

        private static int both(int what, int x, int y, int width) {
            switch (what) {
                case OR_ELSE:
                    return truth(x != 0 || y != 0);
                case AND_ALSO:
                    return truth(x != 0 && y != 0);
                case BIT_OR:
                    return x | y;
                case BIT_XOR:
                    return x ^ y;
                case BIT_AND:
                    return x & y;
                case EQUAL:
                    return truth(x == y);
                case UNEQUAL:
                    return truth(x != y);
                case LESS:
                    return truth(x < y);
                case AT_MOST:
                    return truth(x <= y);
                case MORE:
                    return truth(x > y);
                case AT_LEAST:
                    return truth(x >= y);
                default:
                    return arithmetic(what, x, y, width);
            }
        }

        private static int arithmetic(int what, int x, int y, int width) {
            switch (what) {
                case LEFT:
                    return y >= width ? 0 : x << y;
                case RIGHT:
                    return y >= width ? 0 : x >> y;
                case PLUS:
                    return x + y;
                case MINUS:
                    return x - y;
                case TIMES:
                    return x * y;
                case OVER:
                    return y == 0 ? -1 : x / y;
                default:
                    return y == 0 ? x : x % y;
            }
        }
    }

    /**
     * Gates over the bits of the INPUTS, of equal ones but one. A literal is twice a gate's number,
     * and one more if it denies it; gate 0 is the constant.
     */
    private static final class Circuit {
        /**
         * An operation makes at most three gates for a unit of its WORK, its truth one more: 6000.
         * An if makes three: without VARIABLES it has no WORK, but five bytes, so there are 819. With
         * them its WORK is 8, and it may have 39 times 'while 0' of a NAME in and behind it, of one
         * gate each: then it's 42 for 8, 7875 in all. So 8500 are never made.
         */
        static final int GATES = 10_240;
        private static final int BUCKETS = 8192;

        static final int LEAF = 0;
        static final int AND = 1;
        static final int XOR = 2;
        static final int PICK = 3;

        final int[] kind = new int[GATES];
        final int[] first = new int[GATES];
        final int[] second = new int[GATES];
        final int[] third = new int[GATES];
        private final int[] place = new int[GATES];
        private final int[] chain = new int[GATES];
        private final int[] bucket = new int[BUCKETS];
        int size = 1;
        /** Gates for which there was no room, which must never be. */
        int lost;

        void clear() {
            Arrays.fill(bucket, 0);
            size = 1;
        }

        /** Takes the latest gates away, which stand first in their chains. */
        void cutBack(int to) {
            while (size > to && size > 1) {
                size--;
                if (kind[size] != LEAF) {
                    bucket[place[size]] = chain[size];
                }
            }
        }

        int leaf() {
            if (size >= GATES) {
                lost++;
                return FALSE;
            }
            kind[size] = LEAF;
            size++;
            return 2 * (size - 1);
        }

        int and(int a, int b) {
            if (a == FALSE || b == FALSE || a == (b ^ 1)) {
                return FALSE;
            }
            if (a == TRUE || a == b) {
                return b;
            }
            if (b == TRUE) {
                return a;
            }
            return gate(AND, Math.min(a, b), Math.max(a, b), 0);
        }

        int or(int a, int b) {
            return and(a ^ 1, b ^ 1) ^ 1;
        }

        int xor(int a, int b) {
            int sign = (a ^ b) & 1;
            int x = a & ~1;
            int y = b & ~1;
            if (x == y) {
                return FALSE ^ sign;
            }
            if (x == TRUE || y == TRUE) {
                return (x + y) ^ 1 ^ sign;
            }
            return gate(XOR, Math.min(x, y), Math.max(x, y), 0) ^ sign;
        }

        int pick(int test, int yes, int no) {
            if (test == TRUE || yes == no) {
                return yes;
            }
            if (test == FALSE) {
                return no;
            }
            if (yes == (no ^ 1)) {
                return xor(test, no);
            }
            if (yes == TRUE || yes == test) {
                return and(test ^ 1, no ^ 1) ^ 1;
            }
            if (yes == FALSE || yes == (test ^ 1)) {
                return and(test ^ 1, no);
            }
            if (no == TRUE || no == (test ^ 1)) {
                return and(test, yes ^ 1) ^ 1;
            }
            if (no == FALSE || no == test) {
                return and(test, yes);
            }
            // One form for what is the same: no sign on the test, none on what it picks first.
            int a = (test & 1) == 0 ? yes : no;
            int b = (test & 1) == 0 ? no : yes;
            int sign = a & 1;
            return gate(PICK, test & ~1, a ^ sign, b ^ sign) ^ sign;
        }

        private int gate(int what, int a, int b, int c) {
            int mixed = ((what * 31 + a) * 0x9E3779B1 + b) * 0x85EBCA6B + c * 0x27D4EB2F;
            int spot = (mixed ^ (mixed >>> 15)) & (BUCKETS - 1);
            int next = bucket[spot];
            for (int n = 0; n < GATES && next != 0; n++) {
                if (kind[next] == what && first[next] == a && second[next] == b && third[next] == c) {
                    return 2 * next;
                }
                next = chain[next];
            }
            if (size >= GATES) {
                lost++;
                return FALSE;
            }
            kind[size] = what;
            first[size] = a;
            second[size] = b;
            third[size] = c;
            place[size] = spot;
            chain[size] = bucket[spot];
            bucket[spot] = size;
            size++;
            return 2 * (size - 1);
        }
    }

    /**
     * Operations on rows of eight literals, lowest bit first; those above a WIDTH are FALSE. An
     * outcome stands where the first operand stood.
     */
    private static final class Words {
        final Circuit circuit = new Circuit();
        final int[] bits = new int[STACK * BITS];
        private final int[] scratch = new int[BITS];
        private final int[] lessened = new int[BITS];

        void load(int at, int[] row, int from) {
            System.arraycopy(row, from, bits, at, BITS);
        }

        void loadNumber(int at, int number) {
            for (int i = 0; i < BITS; i++) {
                bits[at + i] = (number >> i & 1) == 1 ? TRUE : FALSE;
            }
        }

        private void leave(int at, int literal) {
            loadNumber(at, 0);
            bits[at] = literal;
        }

        /** Whether the number isn't 0. */
        int truth(int at) {
            return none(at, BITS) ^ 1;
        }

        /** Whether no bit is 1, highest first, as a divisor's are asked for. */
        private int none(int at, int size) {
            int none = TRUE;
            for (int i = size - 1; i >= 0; i--) {
                none = circuit.and(none, bits[at + i] ^ 1);
            }
            return none;
        }

        void single(int what, int a, int width) {
            if (what == NOT) {
                leave(a, truth(a) ^ 1);
                return;
            }
            int carry = what == NEGATE ? TRUE : FALSE;
            for (int i = 0; i < width; i++) {
                int turned = bits[a + i] ^ 1;
                bits[a + i] = circuit.xor(turned, carry);
                carry = circuit.and(turned, carry);
            }
        }

        void choose(int a, int yes, int no) {
            int test = truth(a);
            for (int i = 0; i < BITS; i++) {
                bits[a + i] = circuit.pick(test, bits[yes + i], bits[no + i]);
            }
        }

        void logic(int what, int a, int b) {
            switch (what) {
                case OR_ELSE:
                    leave(a, circuit.or(truth(a), truth(b)));
                    break;
                case AND_ALSO:
                    leave(a, circuit.and(truth(a), truth(b)));
                    break;
                case EQUAL:
                    leave(a, same(a, b));
                    break;
                case UNEQUAL:
                    leave(a, same(a, b) ^ 1);
                    break;
                case LESS:
                    leave(a, below(a, b));
                    break;
                case AT_MOST:
                    leave(a, below(b, a) ^ 1);
                    break;
                case MORE:
                    leave(a, below(b, a));
                    break;
                case AT_LEAST:
                    leave(a, below(a, b) ^ 1);
                    break;
                default:
                    bitwise(what, a, b);
                    break;
            }
        }

        void arithmetic(int what, int a, int b, int width) {
            switch (what) {
                case LEFT:
                case RIGHT:
                    shift(what, a, b, width);
                    break;
                case PLUS:
                    sum(a, b, width, FALSE);
                    break;
                case MINUS:
                    sum(a, b, width, TRUE);
                    break;
                case TIMES:
                    multiply(a, b, width);
                    break;
                default:
                    divide(what, a, b, width);
                    break;
            }
        }

        private void bitwise(int what, int a, int b) {
            for (int i = 0; i < BITS; i++) {
                int x = bits[a + i];
                int y = bits[b + i];
                bits[a + i] = what == BIT_XOR ? circuit.xor(x, y)
                    : what == BIT_AND ? circuit.and(x, y) : circuit.or(x, y);
            }
        }

        private int same(int a, int b) {
            int all = TRUE;
            for (int i = 0; i < BITS; i++) {
                all = circuit.and(all, circuit.xor(bits[a + i], bits[b + i]) ^ 1);
            }
            return all;
        }

        private int below(int a, int b) {
            int so = FALSE;
            for (int i = 0; i < BITS; i++) {
                int y = bits[b + i];
                so = circuit.pick(circuit.xor(bits[a + i], y), y, so);
            }
            return so;
        }

        /** A first carry of TRUE takes the second away: its bits are turned, and 1 is added. */
        private void sum(int a, int b, int width, int firstCarry) {
            int turn = firstCarry == TRUE ? 1 : 0;
            int carry = firstCarry;
            for (int i = 0; i < width; i++) {
                int x = bits[a + i];
                int half = circuit.xor(x, bits[b + i] ^ turn);
                bits[a + i] = circuit.xor(half, carry);
                carry = circuit.pick(half, carry, x);
            }
        }

        private void multiply(int a, int b, int width) {
            Arrays.fill(scratch, FALSE);
            for (int row = 0; row < width; row++) {
                int carry = FALSE;
                for (int i = row; i < width; i++) {
                    int x = scratch[i];
                    int half = circuit.xor(x, circuit.and(bits[a + i - row], bits[b + row]));
                    scratch[i] = circuit.xor(half, carry);
                    carry = circuit.pick(half, carry, x);
                }
            }
            System.arraycopy(scratch, 0, bits, a, BITS);
        }

        /**
         * By hand, highest bit first; a divisor of 0 always fits, which gives what is due for it. The
         * rest has no more bits than have come down, so the divisor's others must be 0.
         */
        private void divide(int what, int a, int b, int width) {
            for (int row = width - 1; row >= 0; row--) {
                int used = width - row;
                System.arraycopy(scratch, 0, scratch, 1, BITS - 1);
                scratch[0] = bits[a + row];
                int fits = TRUE;
                for (int i = 0; i < used; i++) {
                    int x = scratch[i];
                    int half = circuit.xor(x, bits[b + i] ^ 1);
                    lessened[i] = circuit.xor(half, fits);
                    fits = circuit.pick(half, fits, x);
                }
                fits = circuit.and(fits, none(b + used, width - used));
                for (int i = 0; i < used; i++) {
                    scratch[i] = circuit.pick(fits, lessened[i], scratch[i]);
                }
                bits[a + row] = fits;
            }
            if (what == REST) {
                System.arraycopy(scratch, 0, bits, a, width);
            }
        }

        private void shift(int what, int a, int b, int width) {
            int tooFar = FALSE;
            for (int stage = 0; stage < BITS; stage++) {
                int amount = 1 << stage;
                int test = bits[b + stage];
                if (amount >= width) {
                    tooFar = circuit.or(tooFar, test);
                    continue;
                }
                for (int i = 0; i < width; i++) {
                    int source = what == LEFT ? i - amount : i + amount;
                    int moved = source >= 0 && source < width ? bits[a + source] : FALSE;
                    scratch[i] = circuit.pick(test, moved, bits[a + i]);
                }
                System.arraycopy(scratch, 0, bits, a, width);
            }
            for (int i = 0; i < width; i++) {
                bits[a + i] = circuit.and(bits[a + i], tooFar ^ 1);
            }
        }
    }

    /** Makes the circuit of all RUNS of a PROGRAM at once. */
    private static final class Encoder {
        private static final int STATE = VARIABLES * BITS;
        private static final int FRAMES = DEPTH_LIMIT + 2;
        /** 'assert0;' is the shortest. */
        private static final int ASSERTIONS = TEXT_LIMIT / 8;
        private static final int DENIED = 32;

        private final Words words = new Words();
        private Program program;
        final int[] inputs = new int[INPUT_BITS * BITS];
        final int[] state = new int[STATE];
        /** Whether a RUN comes here; behind the last step: whether it ENDS. */
        int guard;
        final int[] failures = new int[ASSERTIONS];
        int anyFailure;
        /** Gates of the PROGRAM; those behind them are a question's. */
        private int size;

        private final int[] otherState = new int[FRAMES * STATE];
        private final int[] otherGuard = new int[FRAMES];
        private final int[] guardBefore = new int[FRAMES];
        private final int[] tests = new int[FRAMES];
        private int frames;
        private final int[] rounds = new int[FRAMES];
        private final int[] denied = new int[DENIED];
        private int deniedCount;

        Circuit circuit() {
            return words.circuit;
        }

        void encode(Program what) {
            program = what;
            words.circuit.clear();
            makeInputs();
            Arrays.fill(state, FALSE);
            Arrays.fill(failures, FALSE);
            guard = TRUE;
            frames = 0;
            deniedCount = 0;
            int step = 0;
            for (int n = 0; n < MANY_STEPS && step < program.steps; n++) {
                evaluate(program.from[step], program.till[step]);
                step = perform(step, program.which[step]);
            }
            anyFailure = FALSE;
            for (int k = 0; k < program.assertions; k++) {
                anyFailure = words.circuit.or(anyFailure, failures[k]);
            }
            size = words.circuit.size;
        }

        private void makeInputs() {
            Arrays.fill(inputs, FALSE);
            for (int i = 0; i < program.inputs; i++) {
                for (int bit = 0; bit < program.inputWidths[i]; bit++) {
                    inputs[i * BITS + bit] = words.circuit.leaf();
                }
            }
        }

        void dropQuestion() {
            words.circuit.cutBack(size);
        }

        int difference(int v, int w) {
            int some = FALSE;
            for (int i = 0; i < BITS; i++) {
                some = words.circuit.or(some, words.circuit.xor(state[v * BITS + i], state[w * BITS + i]));
            }
            return some;
        }

        /** Leaves the worth of the items in the first row of the words. */
        private void evaluate(int from, int till) {
            int top = 0;
            for (int i = from; i < till; i++) {
                int what = program.operation[i];
                int at = top * BITS;
                if (what >= NUMBER && top < STACK) {
                    fetch(what, program.operand[i], at);
                    top++;
                } else if (what == CHOOSE && top >= 3) {
                    words.choose(at - 3 * BITS, at - 2 * BITS, at - BITS);
                    top -= 2;
                } else if (what >= NOT && top >= 1) {
                    words.single(what, at - BITS, program.width[i]);
                } else if (what >= LEFT && top >= 2) {
                    words.arithmetic(what, at - 2 * BITS, at - BITS, program.width[i]);
                    top--;
                } else if (top >= 2) {
                    words.logic(what, at - 2 * BITS, at - BITS);
                    top--;
                }
            }
        }

        private void fetch(int what, int number, int at) {
            if (what == NUMBER) {
                words.loadNumber(at, number);
            } else if (what == INPUT) {
                words.load(at, inputs, number * BITS);
            } else {
                words.load(at, state, number * BITS);
            }
        }

        /** Answers which step comes next. */
        private int perform(int step, int number) {
            switch (program.action[step]) {
                case DO_SET:
                    System.arraycopy(words.bits, 0, state, number * BITS, program.variableWidths[number]);
                    break;
                case DO_ASSERT:
                    claim(number, words.truth(0));
                    break;
                case DO_ASSUME:
                    guard = words.circuit.and(guard, words.truth(0));
                    break;
                case DO_IF:
                    fork(words.truth(0));
                    break;
                case DO_ELSE:
                    swap();
                    break;
                case DO_JOIN:
                    join();
                    break;
                case DO_LOOP:
                    // Without VARIABLES all rounds are like the first, and have no WORK that bounds them.
                    rounds[program.goal[step]] = program.variables == 0 ? Math.min(number, 1) : number;
                    break;
                case DO_TEST:
                    return turn(step, number, words.truth(0));
                default:
                    join();
                    return program.goal[step];
            }
            return step + 1;
        }

        private void claim(int number, int holds) {
            int failsHere = words.circuit.and(guard, holds ^ 1);
            failures[number] = words.circuit.or(failures[number], failsHere);
            guard = words.circuit.and(guard, holds);
        }

        /** A loop is as many ifs as it has rounds: where its EXPR is 0, it stays so. */
        private int turn(int step, int slot, int again) {
            if (rounds[slot] == 0) {
                deny(again);
                return program.goal[step];
            }
            rounds[slot]--;
            fork(again);
            return step + 1;
        }

        /** 'while 0' may have no WORK, so what the guard denies already must not make a gate again. */
        private void deny(int literal) {
            for (int i = 0; i < deniedCount; i++) {
                if (denied[i] == literal) {
                    return;
                }
            }
            if (deniedCount == DENIED) {
                deniedCount = 0;
            }
            denied[deniedCount] = literal;
            deniedCount++;
            guard = words.circuit.and(guard, literal ^ 1);
        }

        private void fork(int condition) {
            System.arraycopy(state, 0, otherState, frames * STATE, STATE);
            otherGuard[frames] = words.circuit.and(guard, condition ^ 1);
            guardBefore[frames] = guard;
            tests[frames] = condition;
            guard = words.circuit.and(guard, condition);
            frames++;
            deniedCount = 0;
        }

        private void swap() {
            int frame = frames - 1;
            for (int i = 0; i < STATE; i++) {
                int other = otherState[frame * STATE + i];
                otherState[frame * STATE + i] = state[i];
                state[i] = other;
            }
            int other = otherGuard[frame];
            otherGuard[frame] = guard;
            guard = other;
            tests[frame] ^= 1;
            deniedCount = 0;
        }

        private void join() {
            frames--;
            for (int i = 0; i < STATE; i++) {
                state[i] = words.circuit.pick(tests[frames], state[i], otherState[frames * STATE + i]);
            }
            guard = joined(guardBefore[frames], tests[frames]);
            deniedCount = 0;
        }

        /** Where no RUN stopped on either way, they all come here as before, which needs no gate. */
        private int joined(int before, int test) {
            boolean allHere = guard == words.circuit.and(before, test);
            boolean allThere = otherGuard[frames] == words.circuit.and(before, test ^ 1);
            return allHere && allThere ? before : words.circuit.or(guard, otherGuard[frames]);
        }
    }

    /** Puts questions to the search, reads the WITNESS from what it finds, and tries it in a RUN. */
    private static final class Inquiry {
        private static final int ROOTS = 2 * BITS;

        final Encoder encoder = new Encoder();
        private final Solver solver = new Solver();
        private Program program;
        final Machine trial = new Machine();
        final int[] witness = new int[INPUT_BITS];
        boolean found;
        private final int[] roots = new int[ROOTS];
        private int rootCount;
        private int demands;
        private final int[] row = new int[INPUT_BITS];
        private int wrong;

        void study(Program what) {
            program = what;
            found = false;
        }

        int mistakes() {
            return wrong + solver.mistakes() + encoder.circuit().lost;
        }

        void open() {
            encoder.dropQuestion();
            rootCount = 0;
            demands = 0;
        }

        void demand(int literal) {
            concern(literal);
            demands = rootCount;
        }

        /** What a question is about, though it demands nothing of it yet. */
        private void concern(int literal) {
            if (rootCount < ROOTS) {
                roots[rootCount] = literal;
                rootCount++;
            }
        }

        void demandWorth(int v, int x) {
            if ((x & mask(BITS)) != x) {
                demand(FALSE);
            }
            for (int i = 0; i < BITS; i++) {
                demand(encoder.state[v * BITS + i] ^ (x >> i & 1) ^ 1);
            }
        }

        void pose() {
            solver.begin(encoder.circuit(), roots, rootCount);
            for (int i = 0; i < program.inputs; i++) {
                for (int bit = program.inputWidths[i] - 1; bit >= 0; bit--) {
                    solver.wish(encoder.inputs[i * BITS + bit] ^ 1);
                }
            }
            for (int i = 0; i < demands; i++) {
                row[0] = roots[i];
                solver.require(row, 1);
            }
        }

        /** Looks for the least INPUTS as demanded, and as required since. */
        void look() {
            found = solver.search();
            if (!found) {
                return;
            }
            for (int i = 0; i < program.inputs; i++) {
                witness[i] = worth(encoder.inputs, i, 0);
            }
            trial.execute(program, witness);
        }

        private int worth(int[] literals, int number, int flip) {
            int x = 0;
            for (int bit = 0; bit < BITS; bit++) {
                if (solver.holds(literals[number * BITS + bit] ^ flip)) {
                    x |= 1 << bit;
                }
            }
            return x;
        }

        int verdict(boolean right) {
            if (found && !right) {
                wrong++;
            }
            return found ? 1 : 0;
        }

        /**
         * The least VALUE, or with flipped bits the greatest. The search goes through the INPUTS
         * upwards and once only: what it finds must get less and less.
         */
        int extreme(int v, int flip) {
            open();
            demand(encoder.guard);
            for (int i = 0; i < BITS; i++) {
                concern(encoder.state[v * BITS + i]);
            }
            pose();
            look();
            int all = mask(program.variableWidths[v]);
            int best = -1;
            for (int n = 0; n <= all && found; n++) {
                int x = worth(encoder.state, v, flip) & all;
                best = flip == 0 ? x : all - x;
                verdict(trial.outcome == ENDED && trial.variables[v] == best);
                if (x == 0) {
                    break;
                }
                requireLess(v, flip, x);
                look();
            }
            found = best >= 0;
            return best;
        }

        /** Of the bits that are 0 in x - 1, none may be 1 unless one above, 1 there, is 0. */
        private void requireLess(int v, int flip, int x) {
            int most = x - 1;
            for (int i = 0; i < program.variableWidths[v]; i++) {
                if ((most >> i & 1) == 0) {
                    int size = 0;
                    for (int above = i; above < program.variableWidths[v]; above++) {
                        if (above == i || (most >> above & 1) == 1) {
                            row[size] = encoder.state[v * BITS + above] ^ flip ^ 1;
                            size++;
                        }
                    }
                    solver.require(row, size);
                }
            }
        }

        int tally() {
            open();
            demand(encoder.guard);
            pose();
            look();
            int ended = verdict(trial.outcome == ENDED);
            for (int n = 1; n < ENDS_COUNTED && found; n++) {
                requireOther();
                look();
                ended += verdict(trial.outcome == ENDED);
            }
            found = false;
            return ended;
        }

        private void requireOther() {
            int size = 0;
            for (int i = 0; i < program.inputs; i++) {
                for (int bit = 0; bit < program.inputWidths[i]; bit++) {
                    int literal = encoder.inputs[i * BITS + bit];
                    row[size] = solver.holds(literal) ? literal ^ 1 : literal;
                    size++;
                }
            }
            solver.require(row, size);
        }
    }

    /**
     * The clauses of a question in one row: each one's size, two links, and its literals, of which
     * the first two are watched: the links go on to the next clause that watches the same.
     */
    private static final class Clauses {
        static final int NONE = 0;
        static final int HEAD = 3;
        /** For 4096 far cuts of 12 literals, and 255 times what must be less, of at most 88 places. */
        private static final int FAR_ROOM = 90_000;
        /** A gate takes at most 24 places; as many gates as there can be leave the far room free. */
        private static final int MEMORY = 360_000;

        final int[] memory = new int[MEMORY];
        final int[] watchers = new int[2 * Circuit.GATES];
        private final int[] marked = new int[Circuit.GATES];
        private int top;
        /** Clauses for which there was no room, which must never be. */
        int lost;

        void clear(int gates) {
            top = 1;
            wipe(watchers, 2 * gates);
        }

        /** Whether as much as a clause of all gates could still be learned without the far room. */
        boolean hasNearRoom() {
            return top + HEAD + Circuit.GATES + FAR_ROOM < MEMORY;
        }

        /** Writes the gates on which the roots hang, and no others. */
        void write(Circuit circuit, int[] roots, int rootCount) {
            wipe(marked, circuit.size);
            for (int i = 0; i < rootCount; i++) {
                marked[roots[i] >> 1] = 1;
            }
            for (int gate = circuit.size - 1; gate > 0; gate--) {
                if (marked[gate] == 1 && circuit.kind[gate] != Circuit.LEAF) {
                    marked[circuit.first[gate] >> 1] = 1;
                    marked[circuit.second[gate] >> 1] = 1;
                    marked[circuit.third[gate] >> 1] = 1;
                }
            }
            for (int gate = 1; gate < circuit.size; gate++) {
                if (marked[gate] == 1) {
                    writeGate(circuit.kind[gate], 2 * gate, circuit.first[gate], circuit.second[gate],
                        circuit.third[gate]);
                }
            }
        }

        private void writeGate(int kind, int out, int a, int b, int c) {
            switch (kind) {
                case Circuit.AND:
                    put(out ^ 1, a, NONE);
                    put(out ^ 1, b, NONE);
                    put(out, a ^ 1, b ^ 1);
                    break;
                case Circuit.XOR:
                    put(out ^ 1, a, b);
                    put(out ^ 1, a ^ 1, b ^ 1);
                    put(out, a ^ 1, b);
                    put(out, a, b ^ 1);
                    break;
                case Circuit.PICK:
                    put(out, a ^ 1, b ^ 1);
                    put(out ^ 1, a ^ 1, b);
                    put(out, a, c ^ 1);
                    put(out ^ 1, a, c);
                    break;
                default:
                    break;
            }
        }

        /** A clause of two literals, or of three; no gate has the literal 0, which is TRUE. */
        private void put(int a, int b, int c) {
            int size = c == NONE ? 2 : 3;
            if (top + HEAD + size > MEMORY) {
                lost++;
                return;
            }
            memory[top] = size;
            memory[top + HEAD] = a;
            memory[top + HEAD + 1] = b;
            if (size == 3) {
                memory[top + HEAD + 2] = c;
            }
            watch(top);
            top += HEAD + size;
        }

        int add(int[] literals, int size) {
            if (top + HEAD + size > MEMORY) {
                lost++;
                return NONE;
            }
            int clause = top;
            memory[clause] = size;
            System.arraycopy(literals, 0, memory, clause + HEAD, size);
            if (size > 1) {
                watch(clause);
            }
            top += HEAD + size;
            return clause;
        }

        private void watch(int clause) {
            int a = memory[clause + HEAD];
            int b = memory[clause + HEAD + 1];
            memory[clause + 1] = watchers[a];
            watchers[a] = clause;
            memory[clause + 2] = watchers[b];
            watchers[b] = clause;
        }

        /** Whether each clause has a literal that holds. */
        boolean allHold(int[] values) {
            int clause = 1;
            while (clause < top) {
                int last = clause + HEAD + memory[clause];
                int at = clause + HEAD;
                while (at < last && values[memory[at]] != Solver.HOLDS) {
                    at++;
                }
                if (at == last) {
                    return false;
                }
                clause = last;
            }
            return true;
        }
    }

    /** Checks the steps of proofs: it believes the clauses, and of the search only what it can redo. */
    private static final class Checker {
        private static final int NOTHING = -1;
        private static final int SEVERAL = -2;

        private final int[] proved = new int[2 * Circuit.GATES];
        private final int[] supposed = new int[2 * Circuit.GATES];
        private int step;
        int wrong;

        void clear(int gates) {
            wipe(proved, 2 * gates);
            proved[TRUE] = 1;
        }

        boolean knows(int literal) {
            return proved[literal] == 1;
        }

        /** A step: the clause follows from the hints, which are looked at from the last to the first. */
        void check(int[] memory, int[] literals, int size, int[] hints, int hintCount) {
            if (!follows(memory, literals, size, hints, hintCount)) {
                wrong++;
            } else if (size == 1) {
                proved[literals[0]] = 1;
            }
        }

        /** All literals are supposed not to hold; then the hints must tell more and more, and clash. */
        private boolean follows(int[] memory, int[] literals, int size, int[] hints, int hintCount) {
            step++;
            for (int i = 0; i < size; i++) {
                if (proved[literals[i]] == 1 || supposed[literals[i]] == step) {
                    return true;
                }
                supposed[literals[i] ^ 1] = step;
            }
            for (int i = hintCount - 1; i >= 0; i--) {
                // A hint that is no clause would clash with anything.
                int left = hints[i] == Clauses.NONE ? SEVERAL : remainder(memory, hints[i]);
                if (left == NOTHING) {
                    return true;
                }
                if (left == SEVERAL) {
                    return false;
                }
                supposed[left] = step;
            }
            return false;
        }

        /** The one literal of the clause that may still hold. */
        private int remainder(int[] memory, int clause) {
            int left = NOTHING;
            int last = clause + Clauses.HEAD + memory[clause];
            for (int at = clause + Clauses.HEAD; at < last; at++) {
                int denial = memory[at] ^ 1;
                if (proved[denial] != 1 && supposed[denial] != step) {
                    if (left != NOTHING) {
                        return SEVERAL;
                    }
                    left = memory[at];
                }
            }
            return left;
        }
    }

    /**
     * The search: it wishes the bits of the INPUTS to be 0, the first one first, and learns a clause
     * from each clash. So the first model is the least: a bit is 1 only if those before it force it.
     */
    private static final class Solver {
        static final int HOLDS = 1;
        private static final int DENIED = -1;
        private static final int FREE = 0;
        private static final int NONE = Clauses.NONE;
        private static final int FULFILLED = -1;
        /** Far above the clashes of 4096 far cuts and all near ones for which there is room. */
        private static final int ROUNDS = 4_000_000;

        private final Clauses clauses = new Clauses();
        private final Checker checker = new Checker();
        private final int[] values = new int[2 * Circuit.GATES];
        private final int[] levels = new int[Circuit.GATES];
        private final int[] reasons = new int[Circuit.GATES];
        private final int[] trail = new int[Circuit.GATES];
        private int trailSize;
        private int done;
        private int noted;
        private final int[] starts = new int[INPUT_BITS + 2];
        private int level;
        private final int[] wishes = new int[INPUT_BITS];
        private int wishCount;
        /** A clause that clashed when it was required. */
        private int clash;
        private final int[] seen = new int[Circuit.GATES];
        private final int[] learned = new int[Circuit.GATES];
        private int learnedSize;
        private final int[] hints = new int[Circuit.GATES];
        private int hintCount;

        int mistakes() {
            return checker.wrong + clauses.lost;
        }

        boolean holds(int literal) {
            return values[literal] == HOLDS;
        }

        void begin(Circuit circuit, int[] roots, int rootCount) {
            clauses.clear(circuit.size);
            clauses.write(circuit, roots, rootCount);
            checker.clear(circuit.size);
            wipe(values, 2 * circuit.size);
            trailSize = 0;
            done = 0;
            noted = 0;
            level = 0;
            wishCount = 0;
            clash = NONE;
            assign(TRUE, NONE);
        }

        void wish(int literal) {
            if (wishCount < INPUT_BITS) {
                wishes[wishCount] = literal;
                wishCount++;
            }
        }

        /** Adds a clause to the question; all decisions are taken back for it. */
        void require(int[] literals, int size) {
            backTo(0);
            int kept = 0;
            for (int i = 0; i < size; i++) {
                int literal = literals[i];
                if (values[literal] == HOLDS || has(literals, kept, literal ^ 1)) {
                    return;
                }
                if (!has(literals, kept, literal)) {
                    literals[kept] = literal;
                    kept++;
                }
            }
            int free = freeFirst(literals, kept);
            int clause = clauses.add(literals, kept);
            if (free == 0) {
                clash = clause;
            } else if (free == 1) {
                assign(literals[0], clause);
            }
        }

        private static boolean has(int[] literals, int size, int literal) {
            for (int i = 0; i < size; i++) {
                if (literals[i] == literal) {
                    return true;
                }
            }
            return false;
        }

        /** What is watched must be free; answers how many are. */
        private int freeFirst(int[] literals, int size) {
            int free = 0;
            for (int i = 0; i < size; i++) {
                if (values[literals[i]] == FREE) {
                    int literal = literals[i];
                    literals[i] = literals[free];
                    literals[free] = literal;
                    free++;
                }
            }
            return free;
        }

        /** Whether there is a model; a "no" is a proof of the clause without literals. */
        boolean search() {
            for (int n = 0; n < ROUNDS; n++) {
                int clashed = clash != NONE ? clash : propagate();
                if (level == 0) {
                    noteFacts();
                }
                if (clashed != NONE) {
                    if (!learn(clashed)) {
                        return false;
                    }
                    continue;
                }
                int wish = nextWish();
                if (wish == FULFILLED) {
                    checkModel();
                    return true;
                }
                level++;
                starts[level] = trailSize;
                assign(wish, NONE);
            }
            checker.wrong++;
            return false;
        }

        private int nextWish() {
            for (int i = 0; i < wishCount; i++) {
                if (values[wishes[i]] == FREE) {
                    return wishes[i];
                }
            }
            return FULFILLED;
        }

        private void assign(int literal, int reason) {
            values[literal] = HOLDS;
            values[literal ^ 1] = DENIED;
            levels[literal >> 1] = level;
            reasons[literal >> 1] = reason;
            trail[trailSize] = literal;
            trailSize++;
        }

        private void backTo(int target) {
            if (level <= target) {
                return;
            }
            int start = starts[target + 1];
            for (int i = start; i < trailSize; i++) {
                values[trail[i]] = FREE;
                values[trail[i] ^ 1] = FREE;
            }
            trailSize = start;
            done = start;
            level = target;
        }

        /** Draws all conclusions; answers the clause that clashes, or NONE. */
        private int propagate() {
            int clashed = NONE;
            while (clashed == NONE && done < trailSize && done < Circuit.GATES) {
                clashed = visit(trail[done] ^ 1);
                done++;
            }
            return clashed;
        }

        /** Goes through the clauses that watch a literal which is denied from now on. */
        private int visit(int gone) {
            int[] memory = clauses.memory;
            int[] watchers = clauses.watchers;
            int cameBy = NONE;
            int clause = watchers[gone];
            for (int n = 0; clause != NONE && n < memory.length; n++) {
                int place = memory[clause + Clauses.HEAD] == gone ? 0 : 1;
                int other = memory[clause + Clauses.HEAD + 1 - place];
                int link = clause + 1 + place;
                int next = memory[link];
                int at = values[other] == HOLDS ? NONE : replacement(clause);
                if (at != NONE) {
                    int literal = memory[at];
                    memory[at] = gone;
                    memory[clause + Clauses.HEAD + place] = literal;
                    memory[link] = watchers[literal];
                    watchers[literal] = clause;
                    if (cameBy == NONE) {
                        watchers[gone] = next;
                    } else {
                        memory[cameBy] = next;
                    }
                } else {
                    if (values[other] == DENIED) {
                        return clause;
                    }
                    if (values[other] == FREE) {
                        assign(other, clause);
                    }
                    cameBy = link;
                }
                clause = next;
            }
            return NONE;
        }

        /** Where a literal stands that can be watched instead. */
        private int replacement(int clause) {
            int last = clause + Clauses.HEAD + clauses.memory[clause];
            for (int at = clause + Clauses.HEAD + 2; at < last; at++) {
                if (values[clauses.memory[at]] != DENIED) {
                    return at;
                }
            }
            return NONE;
        }

        /** What holds without any decision is proved, each fact by itself. */
        private void noteFacts() {
            while (noted < trailSize) {
                learned[0] = trail[noted];
                hints[0] = reasons[trail[noted] >> 1];
                if (!checker.knows(learned[0])) {
                    checker.check(clauses.memory, learned, 1, hints, 1);
                }
                noted++;
            }
        }

        /** Learns from a clash; without a decision to take back, all is refuted. */
        private boolean learn(int clashed) {
            learnedSize = 0;
            hintCount = 0;
            int open = gather(clashed);
            if (level > 0) {
                trace(clauses.hasNearRoom(), open);
            }
            checker.check(clauses.memory, learned, learnedSize, hints, hintCount);
            if (learnedSize == 0) {
                return false;
            }
            backTo(learnedSize > 1 ? levels[learned[1] >> 1] : 0);
            assign(learned[0], learnedSize > 1 ? clauses.add(learned, learnedSize) : NONE);
            return true;
        }

        /** Takes a clause as a hint; answers how many of its literals are new and of this level. */
        private int gather(int clause) {
            hints[hintCount] = clause;
            hintCount++;
            int fresh = 0;
            int last = clause + Clauses.HEAD + clauses.memory[clause];
            for (int at = clause + Clauses.HEAD; at < last; at++) {
                int literal = clauses.memory[at];
                int gate = literal >> 1;
                if (values[literal] == DENIED && levels[gate] > 0 && seen[gate] == 0) {
                    seen[gate] = 1;
                    fresh += levels[gate] == level ? 1 : 0;
                }
            }
            return fresh;
        }

        /**
         * Goes back from what is seen to a cut: the near one, at the last literal through which all
         * of this level went, or the far one, at the decisions. Near ones tell more, but only of far
         * ones it's sure that each brings the search on, so they take over when room gets scarce.
         */
        private void trace(boolean near, int openHere) {
            int open = openHere;
            for (int at = trailSize - 1; at >= starts[1]; at--) {
                int literal = trail[at];
                int gate = literal >> 1;
                if (seen[gate] == 0) {
                    continue;
                }
                seen[gate] = 0;
                boolean here = levels[gate] == level;
                if (reasons[gate] == NONE || near && (!here || open == 1)) {
                    learned[learnedSize] = literal ^ 1;
                    learnedSize++;
                } else {
                    open += gather(reasons[gate]);
                }
                open -= here ? 1 : 0;
            }
        }

        /** Each clause must have what holds in it, and each wish denied a proof that it had to be. */
        private void checkModel() {
            if (!clauses.allHold(values)) {
                checker.wrong++;
            }
            for (int i = 0; i < wishCount; i++) {
                if (values[wishes[i]] == DENIED && levels[wishes[i] >> 1] > 0) {
                    learned[0] = wishes[i] ^ 1;
                    learnedSize = 1;
                    hintCount = 0;
                    seen[wishes[i] >> 1] = 1;
                    trace(false, 0);
                    checker.check(clauses.memory, learned, learnedSize, hints, hintCount);
                }
            }
        }
    }
}
