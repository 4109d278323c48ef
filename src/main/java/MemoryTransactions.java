import java.util.Arrays;

/** Transactions on sixteen cells, walked statement by statement by eight clients; DOC.md says what each call answers. */
public final class MemoryTransactions {
    public static final int NONE = -1;

    private static final int TAPE_LIMIT = 800;
    private static final int FEED_BYTES = 20;
    private static final int CELLS = 16;
    private static final int LOCALS = 10;
    private static final int LETTERS = CELLS + LOCALS;
    private static final int CLIENTS = 8;
    private static final int MOST_TRANSACTIONS = 12;
    private static final int MOST_TO_DO = 16;
    private static final int MOST_STATEMENTS = 40;
    private static final int MOST_WITHIN = 8;
    private static final int MOST_UNARIES = 60;
    private static final int MOST_DIGITS = 9;
    private static final int MOST_STEPS = 300;
    private static final int MOST_RULES = 32;
    private static final int MOST_ROWS = 300;
    private static final int MOST_TURNS = 2000;
    private static final int CUTS_TILL_URGENT = 4;

    // A text has at most 60 unaries, 59 joins of two of them and 40 ends of an exp.
    private static final int CODE_LIMIT = 160;

    private static final long DRAW_FACTOR = 6364136223846793005L;
    private static final long DRAW_STEP = 1442695040888963407L;
    private static final int DRAW_SHIFT = 61;

    private static final int NOWHERE = -1;
    private static final int FAULTY = -2;
    private static final int RULE_BROKEN = -2;

    private static final long THROWN_BY_ZERO = -1;
    private static final long THROWN_BY_RULE = -2;
    private static final long THROWN_TOO_LONG = -3;

    // Tokens: symbols are their own byte, so these stay below the blank.
    private static final int TEXT_OVER = 0;
    private static final int LETTER = 1;
    private static final int NUMBER = 2;
    private static final int BAD = 3;
    private static final int IF = 10;
    private static final int ELSE = 11;
    private static final int WHILE = 12;
    private static final int RETRY = 13;
    private static final int THROW = 14;
    private static final int EITHER = 15;
    private static final int OR = 16;
    private static final int TRY = 17;
    private static final int CATCH = 18;
    private static final int ALWAYS = 19;

    // Code of an exp, in the order in which a stack works it.
    private static final int CODE_STOP = 0;
    private static final int CODE_NUMBER = 1;
    private static final int CODE_LETTER = 2;
    private static final int CODE_MINUS = 3;

    // How working an exp went.
    private static final int WORKED = 0;
    private static final int LOST = 1;
    private static final int BY_ZERO = 2;

    // What the next step of a run comes to.
    private static final int STEPPED = 0;
    private static final int ENDS = 1;
    private static final int THROWS = 2;
    private static final int CUTS = 3;
    private static final int RETRIES = 4;

    private static final int TURN_STEP = 0;
    private static final int TURN_DONE = 1;
    private static final int TURN_THROWN = 2;
    private static final int TURN_CUT = 3;
    private static final int TURN_WAITS = 4;
    private static final int TURN_IDLE = 5;
    private static final int TURN_HELD = 6;

    private static final int IDLE = 0;
    private static final int READY = 1;
    private static final int RUNNING = 2;
    private static final int WAITING = 3;

    private static final int ROW_PUT = 0;
    private static final int ROW_DONE = 1;
    private static final int ROW_THROWN = 2;

    private final int[] tape;
    private int tapeLength;
    private final Program[] programs;
    private int programCount;
    private int faultPlace;
    private final Parser parser;
    private final Store store;
    private final Client[] clients;
    private final Journal journal;
    private final Replay replay;

    public MemoryTransactions() {
        tape = new int[TAPE_LIMIT];
        tapeLength = 0;
        programs = new Program[MOST_TRANSACTIONS];
        for (int i = 0; i < MOST_TRANSACTIONS; i++) {
            programs[i] = new Program();
        }
        programCount = 0;
        faultPlace = NONE;
        parser = new Parser();
        store = new Store();
        clients = new Client[CLIENTS];
        for (int i = 0; i < CLIENTS; i++) {
            clients[i] = new Client(store, programs[0]);
        }
        journal = new Journal();
        replay = new Replay(programs);
    }

    public int feed(int a, int b, int c, int d, int e) {
        if (tapeLength + FEED_BYTES > TAPE_LIMIT) {
            return NONE;
        }
        feedNumber(a);
        feedNumber(b);
        feedNumber(c);
        feedNumber(d);
        feedNumber(e);
        return tapeLength;
    }

    public int end(int n) {
        if (n < 0 || n > FEED_BYTES || tapeLength < FEED_BYTES) {
            return NONE;
        }
        tapeLength = tapeLength - FEED_BYTES + n;
        return tapeLength;
    }

    public int text() {
        if (programCount >= MOST_TRANSACTIONS) {
            return NONE;
        }
        faultPlace = parser.parse(tape, tapeLength, programs[programCount]);
        tapeLength = 0;
        if (faultPlace != NONE) {
            return FAULTY;
        }
        programCount++;
        return programCount - 1;
    }

    public int place() {
        return faultPlace;
    }

    public int told(int transaction, int what) {
        if (!isTransaction(transaction)) {
            return NONE;
        }
        Program program = programs[transaction];
        switch (what) {
            case 0: return program.count;
            case 1: return program.unaries;
            case 2: return program.deepest;
            default: return NONE;
        }
    }

    public int put(int cell, long v) {
        if (!isCell(cell) || journal.isFull()) {
            return NONE;
        }
        if (!store.allows(cell, v)) {
            return RULE_BROKEN;
        }
        store.write(cell, v);
        journal.note(ROW_PUT, NONE, cell, 0, 0, v);
        return store.versions[cell];
    }

    public long cell(int cell) {
        return isCell(cell) ? store.values[cell] : 0;
    }

    public int version(int cell) {
        return isCell(cell) ? store.versions[cell] : NONE;
    }

    public int add(int client, int transaction) {
        if (!isClient(client) || !isTransaction(transaction)) {
            return NONE;
        }
        return clients[client].enlist(transaction);
    }

    public int turn(int client) {
        return isClient(client) ? takeTurn(client) : NONE;
    }

    public int play(long seed, int n) {
        if (n < 0 || n > MOST_TURNS) {
            return NONE;
        }
        long s = seed;
        int done = 0;
        for (int i = 0; i < n; i++) {
            s = DRAW_FACTOR * s + DRAW_STEP;
            if (takeTurn((int) (s >>> DRAW_SHIFT)) == TURN_DONE) {
                done++;
            }
        }
        return done;
    }

    public int client(int client, int what) {
        return isClient(client) ? clients[client].tell(what) : NONE;
    }

    public long sees(int client, int letter) {
        if (!isClient(client) || letter < 0 || letter >= LETTERS) {
            return 0;
        }
        if (clients[client].state == RUNNING) {
            return clients[client].run.shows(letter);
        }
        return isCell(letter) ? store.values[letter] : 0;
    }

    public int rules() {
        return store.ruleCount;
    }

    public int rows() {
        return journal.count;
    }

    public int row(int i, int what) {
        return journal.tell(i, what);
    }

    public long value(int i) {
        return journal.has(i) ? journal.values[i] : 0;
    }

    public int replays() {
        for (int i = replay.redone; i < journal.count; i++) {
            replay.redo(journal, i);
        }
        return replay.same && store.isLike(replay.store) ? 1 : 0;
    }

    public int clear() {
        int told = journal.count;
        journal.count = 0;
        store.reset();
        replay.reset();
        for (int i = 0; i < CLIENTS; i++) {
            clients[i].reset();
        }
        faultPlace = NONE;
        return told;
    }

    private void feedNumber(int number) {
        for (int shift = 24; shift >= 0 && tapeLength < TAPE_LIMIT; shift -= 8) {
            tape[tapeLength] = (number >>> shift) & 255;
            tapeLength++;
        }
    }

    private boolean isTransaction(int number) {
        return number >= 0 && number < programCount;
    }

    private boolean isClient(int number) {
        return number >= 0 && number < CLIENTS;
    }

    private static boolean isCell(int number) {
        return number >= 0 && number < CELLS;
    }

    private int takeTurn(int number) {
        Client client = clients[number];
        if (client.state == IDLE) {
            return TURN_IDLE;
        }
        if (client.state == WAITING && !client.isWoken(store)) {
            return TURN_WAITS;
        }
        int stateBefore = client.state;
        if (stateBefore != RUNNING) {
            client.run.begin(programs[client.todo[0]]);
            client.state = RUNNING;
        }
        int readBefore = client.run.readMask;
        int outcome = client.run.step();
        if (outcome == STEPPED) {
            return TURN_STEP;
        }
        if (outcome == CUTS || client.run.isStale()) {
            client.cut();
            return TURN_CUT;
        }
        if (outcome == RETRIES) {
            client.rest();
            return TURN_WAITS;
        }
        boolean held = isHeld(number);
        if (held || journal.isFull()) {
            // The turn must leave no trace: a run that it began is to begin again.
            client.run.readMask = readBefore;
            client.state = stateBefore;
            return held ? TURN_HELD : NONE;
        }
        return closeRun(number, outcome);
    }

    private boolean isHeld(int number) {
        if (clients[number].urgent) {
            return false;
        }
        for (int i = 0; i < CLIENTS; i++) {
            if (clients[i].urgent) {
                return true;
            }
        }
        return false;
    }

    private int closeRun(int number, int outcome) {
        Client client = clients[number];
        Run run = client.run;
        boolean done = outcome == ENDS && store.takes(run.program, run.draft);
        if (outcome == ENDS) {
            run.thrown = done ? 0 : THROWN_BY_RULE;
        }
        int kind = done ? ROW_DONE : ROW_THROWN;
        journal.note(kind, number, client.todo[0], run.steps + 1, client.cuts, run.thrown);
        client.finish();
        return done ? TURN_DONE : TURN_THROWN;
    }

    /** A text as statements that point at one another, and the code of their exps. */
    private static final class Program {
        int count;
        int unaries;
        int deepest;
        int codeCount;
        int entry;
        final int[] kinds = new int[MOST_STATEMENTS];
        final int[] letters = new int[MOST_STATEMENTS];
        final int[] codes = new int[MOST_STATEMENTS];
        final int[] parents = new int[MOST_STATEMENTS];
        final int[] parts = new int[MOST_STATEMENTS];
        final int[] depths = new int[MOST_STATEMENTS];
        final int[] siblings = new int[MOST_STATEMENTS];
        final int[] firsts = new int[MOST_STATEMENTS];
        final int[] seconds = new int[MOST_STATEMENTS];
        final int[] operations = new int[CODE_LIMIT];
        final int[] operands = new int[CODE_LIMIT];

        void reset() {
            count = 0;
            unaries = 0;
            deepest = 0;
            codeCount = 0;
            entry = NOWHERE;
        }

        boolean has(int statement) {
            return statement >= 0 && statement < count;
        }

        int open(int kind, int parent, int part, int depth) {
            if (count >= MOST_STATEMENTS) {
                return NOWHERE;
            }
            int statement = count;
            count++;
            kinds[statement] = kind;
            letters[statement] = 0;
            codes[statement] = codeCount;
            parents[statement] = parent;
            parts[statement] = part;
            depths[statement] = depth;
            siblings[statement] = NOWHERE;
            firsts[statement] = NOWHERE;
            seconds[statement] = NOWHERE;
            return statement;
        }

        void emit(int operation, int operand) {
            if (codeCount < CODE_LIMIT) {
                operations[codeCount] = operation;
                operands[codeCount] = operand;
                codeCount++;
            }
        }

        /** Where a run goes on when a statement, or the body that it ends, is over. */
        int behind(int statement) {
            int here = statement;
            for (int level = 0; level <= MOST_WITHIN && has(here); level++) {
                if (siblings[here] != NOWHERE) {
                    return siblings[here];
                }
                here = parents[here];
                if (has(here) && kinds[here] == WHILE) {
                    return here;
                }
            }
            return NOWHERE;
        }

        /** Where a run goes on when it goes into a statement's body, which may be empty. */
        int into(int statement, int body) {
            if (body != NOWHERE) {
                return body;
            }
            if (has(statement) && kinds[statement] == WHILE) {
                return statement;
            }
            return behind(statement);
        }

        /** The innermost statement of a kind whose first body holds this one. */
        int around(int statement, int kind) {
            int here = statement;
            for (int level = 0; level <= MOST_WITHIN && has(here); level++) {
                int parent = parents[here];
                if (has(parent) && parts[here] == 0 && kinds[parent] == kind) {
                    return parent;
                }
                here = parent;
            }
            return NOWHERE;
        }
    }

    /** Cuts a text into tokens; behind the last one stands TEXT_OVER. */
    private static final class Scanner {
        final int[] tokens = new int[TAPE_LIMIT + 1];
        final int[] starts = new int[TAPE_LIMIT + 1];
        final int[] numbers = new int[TAPE_LIMIT + 1];
        int last;
        private int[] bytes = new int[0];
        private int length;
        private int next;

        void scan(int[] text, int textLength) {
            bytes = text;
            length = Math.min(Math.min(textLength, text.length), TAPE_LIMIT);
            next = 0;
            last = 0;
            for (int i = 0; i < TAPE_LIMIT && next < length; i++) {
                if (bytes[next] == ' ' || bytes[next] == '\n') {
                    next++;
                } else {
                    readToken();
                    last++;
                }
            }
            tokens[last] = TEXT_OVER;
            starts[last] = length;
            numbers[last] = 0;
        }

        private void readToken() {
            starts[last] = next;
            numbers[last] = 0;
            if (isSmallLetter(bytes[next])) {
                readLetters();
            } else if (isDigit(bytes[next])) {
                readDigits();
            } else {
                tokens[last] = isSymbol(bytes[next]) ? bytes[next] : BAD;
                next++;
            }
        }

        private void readLetters() {
            int start = next;
            while (next < length && isSmallLetter(bytes[next])) {
                next++;
            }
            if (next - start == 1) {
                tokens[last] = LETTER;
                numbers[last] = bytes[start] - 'a';
            } else {
                tokens[last] = knownWord(start);
            }
        }

        private void readDigits() {
            int start = next;
            int number = 0;
            while (next < length && isDigit(bytes[next])) {
                // Digits past the ninth make the row no number: they need not be counted in.
                if (next - start < MOST_DIGITS) {
                    number = number * 10 + (bytes[next] - '0');
                }
                next++;
            }
            tokens[last] = next - start > MOST_DIGITS ? BAD : NUMBER;
            numbers[last] = number;
        }

        private int knownWord(int start) {
            if (reads(start, "if")) {
                return IF;
            }
            if (reads(start, "else")) {
                return ELSE;
            }
            if (reads(start, "while")) {
                return WHILE;
            }
            if (reads(start, "retry")) {
                return RETRY;
            }
            if (reads(start, "throw")) {
                return THROW;
            }
            if (reads(start, "either")) {
                return EITHER;
            }
            if (reads(start, "or")) {
                return OR;
            }
            if (reads(start, "try")) {
                return TRY;
            }
            if (reads(start, "catch")) {
                return CATCH;
            }
            return reads(start, "always") ? ALWAYS : BAD;
        }

        private boolean reads(int start, String word) {
            if (next - start != word.length()) {
                return false;
            }
            for (int i = 0; i < word.length(); i++) {
                if (bytes[start + i] != word.charAt(i)) {
                    return false;
                }
            }
            return true;
        }

        private static boolean isSmallLetter(int b) {
            return b >= 'a' && b <= 'z';
        }

        private static boolean isDigit(int b) {
            return b >= '0' && b <= '9';
        }

        private static boolean isSymbol(int b) {
            switch (b) {
                case '=':
                case ';':
                case '(':
                case ')':
                case '{':
                case '}':
                case '<':
                case '#':
                case '+':
                case '-':
                case '*':
                case '/':
                case '%':
                    return true;
                default:
                    return false;
            }
        }
    }

    /** Makes a program of a text, or finds where its fault lies. */
    private static final class Parser {
        private final Scanner scanner = new Scanner();
        private Program program = new Program();
        private int at;
        private int fault;
        private boolean inRule;

        /** The place of the fault, NONE without one. */
        int parse(int[] text, int length, Program into) {
            program = into;
            program.reset();
            at = 0;
            fault = NONE;
            inRule = false;
            scanner.scan(text, length);
            program.entry = statements(NOWHERE, 0, 0);
            expect(TEXT_OVER);
            return fault;
        }

        private boolean isFaulty() {
            return fault != NONE;
        }

        private void refuse() {
            if (fault == NONE) {
                fault = scanner.starts[at];
            }
        }

        private int token() {
            return scanner.tokens[at];
        }

        private int number() {
            return scanner.numbers[at];
        }

        private void advance() {
            if (at < scanner.last) {
                at++;
            }
        }

        private boolean isAt(int token) {
            return fault == NONE && scanner.tokens[at] == token;
        }

        private void expect(int token) {
            if (isAt(token)) {
                advance();
            } else {
                refuse();
            }
        }

        /** The first of a row of statements, NOWHERE if there is none. */
        private int statements(int parent, int part, int depth) {
            int first = NOWHERE;
            int last = NOWHERE;
            for (int i = 0; i <= MOST_STATEMENTS; i++) {
                if (isFaulty() || isAt(TEXT_OVER) || isAt('}')) {
                    return first;
                }
                int statement = statement(parent, part, depth);
                if (last == NOWHERE) {
                    first = statement;
                } else {
                    program.siblings[last] = statement;
                }
                last = statement;
            }
            return first;
        }

        private int statement(int parent, int part, int depth) {
            int kind = token();
            int statement = canBegin(kind) ? program.open(kind, parent, part, depth) : NOWHERE;
            if (statement == NOWHERE) {
                refuse();
                return NOWHERE;
            }
            program.letters[statement] = number();
            advance();
            switch (kind) {
                case LETTER:
                    expect('=');
                    closedExp();
                    break;
                case THROW:
                    closedExp();
                    break;
                case ALWAYS:
                    inRule = true;
                    closedExp();
                    inRule = false;
                    break;
                case RETRY:
                    expect(';');
                    break;
                default:
                    compound(kind, statement, depth);
                    break;
            }
            return statement;
        }

        private static boolean canBegin(int token) {
            switch (token) {
                case LETTER:
                case IF:
                case WHILE:
                case RETRY:
                case THROW:
                case EITHER:
                case TRY:
                case ALWAYS:
                    return true;
                default:
                    return false;
            }
        }

        private void compound(int kind, int statement, int depth) {
            if (kind == IF || kind == WHILE) {
                expect('(');
                exp(0);
                program.emit(CODE_STOP, 0);
                expect(')');
            }
            program.firsts[statement] = body(statement, 0, depth);
            if (kind == IF && isAt(ELSE)) {
                advance();
                program.seconds[statement] = body(statement, 1, depth);
            }
            if (kind == EITHER) {
                expect(OR);
                program.seconds[statement] = body(statement, 1, depth);
            }
            if (kind == TRY) {
                expect(CATCH);
                program.letters[statement] = local();
                program.seconds[statement] = body(statement, 1, depth);
            }
        }

        private int local() {
            int letter = number();
            if (!isAt(LETTER) || isCell(letter)) {
                refuse();
                return CELLS;
            }
            advance();
            return letter;
        }

        /** The first statement of a body, NOWHERE if it is empty. */
        private int body(int statement, int part, int depth) {
            if (!isAt('{') || depth >= MOST_WITHIN) {
                refuse();
                return NOWHERE;
            }
            advance();
            program.deepest = Math.max(program.deepest, depth + 1);
            int first = statements(statement, part, depth + 1);
            expect('}');
            return first;
        }

        private void closedExp() {
            exp(0);
            program.emit(CODE_STOP, 0);
            expect(';');
        }

        private void exp(int depth) {
            sum(depth);
            if (isAt('<') || isAt('=') || isAt('#')) {
                int operation = token();
                advance();
                sum(depth);
                program.emit(operation, 0);
            }
        }

        private void sum(int depth) {
            product(depth);
            for (int i = 0; i < MOST_UNARIES && (isAt('+') || isAt('-')); i++) {
                int operation = token();
                advance();
                product(depth);
                program.emit(operation, 0);
            }
        }

        private void product(int depth) {
            unary(depth);
            for (int i = 0; i < MOST_UNARIES && (isAt('*') || isAt('/') || isAt('%')); i++) {
                int operation = token();
                advance();
                unary(depth);
                program.emit(operation, 0);
            }
        }

        private void unary(int depth) {
            if (isFaulty() || program.unaries >= MOST_UNARIES) {
                refuse();
                return;
            }
            program.unaries++;
            if (isAt(NUMBER)) {
                program.emit(CODE_NUMBER, number());
                advance();
            } else if (isAt(LETTER) && (isCell(number()) || !inRule)) {
                program.emit(CODE_LETTER, number());
                advance();
            } else if (isAt('-') && depth < MOST_WITHIN) {
                advance();
                unary(depth + 1);
                program.emit(CODE_MINUS, 0);
            } else if (isAt('(') && depth < MOST_WITHIN) {
                advance();
                exp(depth + 1);
                expect(')');
            } else {
                refuse();
            }
        }
    }

    /** What the letters of an exp are. */
    private abstract static class Letters {
        long found;

        /** Finds what a letter is; false if it can't be known any more. */
        abstract boolean find(int letter);
    }

    /** Works exps on a stack. */
    private static final class Calculator {
        // Each unary lays at most one number on the stack.
        private final long[] stack = new long[MOST_UNARIES];
        private int height;

        int work(Program program, int from, Letters letters) {
            height = 0;
            for (int i = from; i >= 0 && i < program.codeCount; i++) {
                int operation = program.operations[i];
                if (operation == CODE_STOP) {
                    return WORKED;
                }
                if (operation == CODE_NUMBER) {
                    push(program.operands[i]);
                } else if (operation == CODE_LETTER) {
                    if (!letters.find(program.operands[i])) {
                        return LOST;
                    }
                    push(letters.found);
                } else if (operation == CODE_MINUS) {
                    push(-pop());
                } else {
                    long right = pop();
                    long left = pop();
                    if (right == 0 && (operation == '/' || operation == '%')) {
                        return BY_ZERO;
                    }
                    push(join(operation, left, right));
                }
            }
            return WORKED;
        }

        long result() {
            return height > 0 ? stack[0] : 0;
        }

        private void push(long v) {
            if (height < MOST_UNARIES) {
                stack[height] = v;
                height++;
            }
        }

        private long pop() {
            if (height <= 0) {
                return 0;
            }
            height--;
            return stack[height];
        }

        private static long join(int operation, long left, long right) {
            switch (operation) {
                case '+': return left + right;
                case '-': return left - right;
                case '*': return left * right;
                case '/': return right == 0 ? 0 : left / right;
                case '%': return right == 0 ? 0 : left % right;
                case '<': return left < right ? 1 : 0;
                case '=': return left == right ? 1 : 0;
                default: return left != right ? 1 : 0;
            }
        }
    }

    /** Cells with their versions, and the rules that hold for them. */
    private static final class Store extends Letters {
        final long[] values = new long[CELLS];
        final int[] versions = new int[CELLS];
        int ruleCount;
        private final Program[] rulePrograms = new Program[MOST_RULES];
        private final int[] ruleStatements = new int[MOST_RULES];
        // The cells as they would be: rules are worked with these.
        private final long[] ahead = new long[CELLS];
        private final Calculator calculator = new Calculator();

        void reset() {
            Arrays.fill(values, 0);
            Arrays.fill(versions, 0);
            ruleCount = 0;
        }

        boolean find(int letter) {
            found = letter >= 0 && letter < CELLS ? ahead[letter] : 0;
            return true;
        }

        /** Whether one of the cells of a mask has another version now. */
        boolean differs(int mask, int[] since) {
            for (int i = 0; i < CELLS && i < since.length; i++) {
                if ((mask >>> i & 1) != 0 && versions[i] != since[i]) {
                    return true;
                }
            }
            return false;
        }

        void write(int cell, long v) {
            if (isCell(cell)) {
                values[cell] = v;
                versions[cell]++;
            }
        }

        /** Whether all rules would hold if one cell became v. */
        boolean allows(int cell, long v) {
            System.arraycopy(values, 0, ahead, 0, CELLS);
            if (isCell(cell)) {
                ahead[cell] = v;
            }
            return holdAhead();
        }

        /** Takes what a run has written and its rules, or nothing if a rule would not hold. */
        boolean takes(Program program, Draft draft) {
            System.arraycopy(values, 0, ahead, 0, CELLS);
            for (int i = 0; i < CELLS; i++) {
                if (draft.hasWritten(i)) {
                    ahead[i] = draft.written[i];
                }
            }
            if (ruleCount + draft.ruleCount > MOST_RULES || !holdAhead()) {
                return false;
            }
            for (int i = 0; i < draft.ruleCount; i++) {
                if (!holdsAhead(program, draft.rules[i])) {
                    return false;
                }
            }
            for (int i = 0; i < CELLS; i++) {
                if (draft.hasWritten(i)) {
                    write(i, draft.written[i]);
                }
            }
            for (int i = 0; i < draft.ruleCount && ruleCount < MOST_RULES; i++) {
                rulePrograms[ruleCount] = program;
                ruleStatements[ruleCount] = draft.rules[i];
                ruleCount++;
            }
            return true;
        }

        private boolean holdAhead() {
            for (int i = 0; i < ruleCount; i++) {
                if (!holdsAhead(rulePrograms[i], ruleStatements[i])) {
                    return false;
                }
            }
            return true;
        }

        private boolean holdsAhead(Program program, int statement) {
            if (program == null || !program.has(statement)) {
                return false;
            }
            return calculator.work(program, program.codes[statement], this) == WORKED && calculator.result() != 0;
        }

        boolean isLike(Store other) {
            if (ruleCount != other.ruleCount) {
                return false;
            }
            for (int i = 0; i < CELLS; i++) {
                if (values[i] != other.values[i] || versions[i] != other.versions[i]) {
                    return false;
                }
            }
            for (int i = 0; i < ruleCount; i++) {
                if (rulePrograms[i] != other.rulePrograms[i] || ruleStatements[i] != other.ruleStatements[i]) {
                    return false;
                }
            }
            return true;
        }
    }

    /** What a run has made and nobody else sees; each either and try marks it, so that it can be taken back. */
    private static final class Draft {
        int writtenMask;
        final long[] written = new long[CELLS];
        final long[] locals = new long[LOCALS];
        int ruleCount;
        final int[] rules = new int[MOST_STEPS];
        private final int[] markedMasks = new int[MOST_WITHIN];
        private final long[] markedWritten = new long[MOST_WITHIN * CELLS];
        private final long[] markedLocals = new long[MOST_WITHIN * LOCALS];
        private final int[] markedRuleCounts = new int[MOST_WITHIN];

        void reset() {
            writtenMask = 0;
            ruleCount = 0;
            Arrays.fill(locals, 0);
        }

        boolean hasWritten(int cell) {
            return (writtenMask >>> cell & 1) != 0;
        }

        void assign(int letter, long v) {
            if (isCell(letter)) {
                written[letter] = v;
                writtenMask |= 1 << letter;
            } else if (letter >= CELLS && letter < LETTERS) {
                locals[letter - CELLS] = v;
            }
        }

        void addRule(int statement) {
            if (ruleCount < MOST_STEPS) {
                rules[ruleCount] = statement;
                ruleCount++;
            }
        }

        void mark(int level) {
            if (level < 0 || level >= MOST_WITHIN) {
                return;
            }
            markedMasks[level] = writtenMask;
            markedRuleCounts[level] = ruleCount;
            System.arraycopy(written, 0, markedWritten, level * CELLS, CELLS);
            System.arraycopy(locals, 0, markedLocals, level * LOCALS, LOCALS);
        }

        void takeBack(int level) {
            if (level < 0 || level >= MOST_WITHIN) {
                return;
            }
            writtenMask = markedMasks[level];
            // Rules are only ever added, so the first ones are still those of the mark.
            ruleCount = markedRuleCounts[level];
            System.arraycopy(markedWritten, level * CELLS, written, 0, CELLS);
            System.arraycopy(markedLocals, level * LOCALS, locals, 0, LOCALS);
        }
    }

    /** A transaction on its way: where it is, what it has read, what it has made. */
    private static final class Run extends Letters {
        Program program;
        int steps;
        int readMask;
        long thrown;
        final int[] readVersions = new int[CELLS];
        final Draft draft = new Draft();
        private int at;
        private final long[] readValues = new long[CELLS];
        private final Store store;
        private final Calculator calculator = new Calculator();

        Run(Store cells, Program first) {
            store = cells;
            program = first;
        }

        void begin(Program next) {
            program = next;
            at = next.entry;
            steps = 0;
            readMask = 0;
            thrown = 0;
            draft.reset();
        }

        /** Does the next step, but leaves one that would end the run undone. */
        int step() {
            if (steps >= MOST_STEPS) {
                thrown = THROWN_TOO_LONG;
                return THROWS;
            }
            if (!program.has(at)) {
                return ENDS;
            }
            int outcome = STEPPED;
            switch (program.kinds[at]) {
                case EITHER:
                case TRY:
                    draft.mark(program.depths[at]);
                    at = program.into(at, program.firsts[at]);
                    break;
                case ALWAYS:
                    draft.addRule(at);
                    at = program.behind(at);
                    break;
                case RETRY:
                    outcome = retry();
                    break;
                default:
                    outcome = walkExp();
                    break;
            }
            if (outcome == STEPPED) {
                steps++;
            }
            return outcome;
        }

        private int walkExp() {
            int how = calculator.work(program, program.codes[at], this);
            if (how == LOST) {
                return CUTS;
            }
            if (how == BY_ZERO) {
                return toss(THROWN_BY_ZERO);
            }
            long v = calculator.result();
            switch (program.kinds[at]) {
                case THROW:
                    return toss(v);
                case IF:
                    at = program.into(at, v != 0 ? program.firsts[at] : program.seconds[at]);
                    return STEPPED;
                case WHILE:
                    at = v != 0 ? program.into(at, program.firsts[at]) : program.behind(at);
                    return STEPPED;
                default:
                    draft.assign(program.letters[at], v);
                    at = program.behind(at);
                    return STEPPED;
            }
        }

        private int toss(long v) {
            int handler = program.around(at, TRY);
            if (handler == NOWHERE) {
                thrown = v;
                return THROWS;
            }
            draft.takeBack(program.depths[handler]);
            draft.assign(program.letters[handler], v);
            at = program.into(handler, program.seconds[handler]);
            return STEPPED;
        }

        private int retry() {
            int handler = program.around(at, EITHER);
            if (handler == NOWHERE) {
                return RETRIES;
            }
            draft.takeBack(program.depths[handler]);
            at = program.into(handler, program.seconds[handler]);
            return STEPPED;
        }

        /** Whether a cell that is read has another version now. */
        boolean isStale() {
            return store.differs(readMask, readVersions);
        }

        boolean find(int letter) {
            if (!isCell(letter) || draft.hasWritten(letter) || hasRead(letter)) {
                found = shows(letter);
                return true;
            }
            if (isStale()) {
                return false;
            }
            readMask |= 1 << letter;
            readValues[letter] = store.values[letter];
            readVersions[letter] = store.versions[letter];
            found = readValues[letter];
            return true;
        }

        private boolean hasRead(int cell) {
            return (readMask >>> cell & 1) != 0;
        }

        /** What a letter is to this run, without reading it. */
        long shows(int letter) {
            if (letter >= CELLS && letter < LETTERS) {
                return draft.locals[letter - CELLS];
            }
            if (!isCell(letter)) {
                return 0;
            }
            if (draft.hasWritten(letter)) {
                return draft.written[letter];
            }
            return hasRead(letter) ? readValues[letter] : store.values[letter];
        }
    }

    /** One who does transactions, one after the other. */
    private static final class Client {
        int state;
        int cuts;
        boolean urgent;
        final int[] todo = new int[MOST_TO_DO];
        final Run run;
        private int count;
        // Kept apart from the run: a turn that wakes the client and is held leaves it waiting.
        private int waitMask;
        private final int[] waitVersions = new int[CELLS];

        Client(Store cells, Program first) {
            run = new Run(cells, first);
        }

        void reset() {
            state = IDLE;
            count = 0;
            forgetCuts();
        }

        int enlist(int transaction) {
            if (count >= MOST_TO_DO) {
                return NONE;
            }
            todo[count] = transaction;
            count++;
            if (state == IDLE) {
                state = READY;
            }
            return count;
        }

        boolean isWoken(Store store) {
            return store.differs(waitMask, waitVersions);
        }

        void cut() {
            state = READY;
            cuts++;
            urgent = cuts >= CUTS_TILL_URGENT;
        }

        void rest() {
            state = WAITING;
            urgent = false;
            waitMask = run.readMask;
            System.arraycopy(run.readVersions, 0, waitVersions, 0, CELLS);
        }

        void finish() {
            if (count > 0) {
                count--;
                System.arraycopy(todo, 1, todo, 0, count);
            }
            state = count > 0 ? READY : IDLE;
            forgetCuts();
        }

        private void forgetCuts() {
            cuts = 0;
            urgent = false;
        }

        int tell(int what) {
            boolean runs = state == RUNNING;
            switch (what) {
                case 0: return state;
                case 1: return count;
                case 2: return count > 0 ? todo[0] : NONE;
                case 3: return cuts;
                case 4: return runs ? run.steps : 0;
                case 5: return runs ? run.readMask : state == WAITING ? waitMask : 0;
                case 6: return runs ? run.draft.writtenMask : 0;
                case 7: return urgent ? 1 : 0;
                case 8: return runs ? run.draft.ruleCount : 0;
                default: return NONE;
            }
        }
    }

    /** The rows: what came about, in order. */
    private static final class Journal {
        int count;
        final int[] kinds = new int[MOST_ROWS];
        final int[] who = new int[MOST_ROWS];
        final int[] what = new int[MOST_ROWS];
        final int[] steps = new int[MOST_ROWS];
        final int[] cuts = new int[MOST_ROWS];
        final long[] values = new long[MOST_ROWS];

        boolean isFull() {
            return count >= MOST_ROWS;
        }

        boolean has(int i) {
            return i >= 0 && i < count && i < MOST_ROWS;
        }

        void note(int kind, int client, int subject, int stepCount, int cutCount, long v) {
            if (isFull()) {
                return;
            }
            kinds[count] = kind;
            who[count] = client;
            what[count] = subject;
            steps[count] = stepCount;
            cuts[count] = cutCount;
            values[count] = v;
            count++;
        }

        int tell(int i, int field) {
            if (!has(i)) {
                return NONE;
            }
            switch (field) {
                case 0: return kinds[i];
                case 1: return who[i];
                case 2: return what[i];
                case 3: return steps[i];
                case 4: return cuts[i];
                default: return NONE;
            }
        }
    }

    /** Does the rows again, one after the other, on cells of its own; rows never change, so each is done again once. */
    private static final class Replay {
        final Store store;
        int redone;
        boolean same;
        private final Program[] programs;
        private final Run run;

        Replay(Program[] all) {
            programs = all;
            store = new Store();
            run = new Run(store, all[0]);
            redone = 0;
            same = true;
        }

        void reset() {
            store.reset();
            redone = 0;
            same = true;
        }

        void redo(Journal journal, int i) {
            redone = i + 1;
            if (!journal.has(i)) {
                return;
            }
            int subject = journal.what[i];
            if (journal.kinds[i] == ROW_PUT) {
                same = same && store.allows(subject, journal.values[i]);
                store.write(subject, journal.values[i]);
                return;
            }
            if (subject < 0 || subject >= programs.length) {
                same = false;
                return;
            }
            run.begin(programs[subject]);
            int outcome = STEPPED;
            for (int k = 0; k <= MOST_STEPS && outcome == STEPPED; k++) {
                outcome = run.step();
            }
            boolean done = outcome == ENDS && store.takes(run.program, run.draft);
            same = same && run.steps + 1 == journal.steps[i] && isTold(journal, i, outcome, done);
        }

        private boolean isTold(Journal journal, int i, int outcome, boolean done) {
            if (done) {
                return journal.kinds[i] == ROW_DONE;
            }
            if (journal.kinds[i] != ROW_THROWN) {
                return false;
            }
            return outcome == ENDS && journal.values[i] == THROWN_BY_RULE
                || outcome == THROWS && journal.values[i] == run.thrown;
        }
    }
}
