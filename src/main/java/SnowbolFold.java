import java.util.NoSuchElementException;

/** A language of strings in which patterns are values; DOC.md tells what each method promises. */
public final class SnowbolFold {
    private static final int MOST_SIGNS = 60;
    private static final int MOST_TEXTS = 30;
    private static final int MOST_TEXT_SIGNS = 20;
    private static final int VARIABLES = 26;
    private static final int MOST_PATTERNS = 50;
    private static final int MOST_TERMS = 50;
    private static final int MOST_STATEMENTS = 40;
    private static final int FUNCTIONS = 5;
    private static final int MOST_CALLS = 10;
    private static final int MOST_STEPS = 1000;
    private static final int MOST_BEGUN = 3000;
    private static final int MOST_WAYS = 200;
    private static final int MOST_DIGITS = 9;
    private static final long MOST_NUMBER = 999999999L;
    private static final long NO_NUMBER = -1000000000000L;
    private static final int NONE = -1;

    private static final String PATTERN_KINDS = "l|&nosk#trpqm*gxfzi$.@v";
    private static final String TERM_KINDS = "tvw+-*/&#rd=<";

    /** How a term or a statement comes out; a number above 0 is that of an error. */
    private static final int SUCCEEDS = 0;
    private static final int FAILS = -1;
    private static final int ENTERS = -2;

    private static final int ERROR_NUMBER = 1;
    private static final int ERROR_DIVISION = 2;
    private static final int ERROR_BEGUN = 3;
    private static final int ERROR_LONG = 4;
    private static final int ERROR_CALL = 5;
    private static final int ERROR_BACK = 6;
    private static final int ERROR_PLACE = 7;
    private static final int ERROR_NAME = 8;

    private final Rows typed;
    private final Rows texts;
    private int textCount;
    private final Rows variables;
    private final Rows kept;
    private final Book patterns;
    private final Book terms;
    private final Matcher matcher;
    private final Reckoner reckoner;
    private final Program program;
    private final Runner runner;
    private final Cells found;
    private boolean anchored;
    private boolean everMatched;
    private boolean matched;
    private int matchFrom;
    private int matchTo;
    private int matchBegun;
    private int matchLength;

    public SnowbolFold() {
        typed = new Rows(1, MOST_SIGNS);
        texts = new Rows(MOST_TEXTS, MOST_TEXT_SIGNS);
        variables = new Rows(VARIABLES, MOST_SIGNS);
        kept = new Rows(VARIABLES, MOST_SIGNS);
        patterns = new Book(MOST_PATTERNS);
        terms = new Book(MOST_TERMS);
        matcher = new Matcher(patterns, texts, variables);
        reckoner = new Reckoner(terms, texts, variables);
        program = new Program();
        runner = new Runner(program, matcher, reckoner, variables);
        found = new Cells(MOST_WAYS);
    }

    public int type(int sign) throws IllegalArgumentException, IllegalStateException {
        if (!isSign(sign)) {
            throw new IllegalArgumentException("no such sign");
        }
        if (typed.length(0) >= MOST_SIGNS) {
            throw new IllegalStateException("60 signs are typed");
        }
        typed.add(0, sign);
        return typed.length(0);
    }

    public int wipe() {
        int count = typed.length(0);
        typed.clear(0);
        return count;
    }

    public int text() throws UnsupportedOperationException, IllegalStateException {
        if (typed.length(0) > MOST_TEXT_SIGNS) {
            throw new UnsupportedOperationException("more than 20 signs are typed");
        }
        if (textCount >= MOST_TEXTS) {
            throw new IllegalStateException("there are 30 texts");
        }
        int number = textCount;
        texts.copy(number, typed, 0);
        typed.clear(0);
        textCount++;
        return number;
    }

    public int set(int variable) throws IndexOutOfBoundsException {
        needVariable(variable);
        int before = variables.length(variable);
        variables.copy(variable, typed, 0);
        typed.clear(0);
        return before;
    }

    public int size(int variable) throws IndexOutOfBoundsException {
        needVariable(variable);
        return variables.length(variable);
    }

    public int at(int variable, int place) throws IndexOutOfBoundsException, NoSuchElementException {
        needVariable(variable);
        if (!variables.holds(variable, place)) {
            throw new NoSuchElementException("no sign there");
        }
        return variables.sign(variable, place);
    }

    public int pattern(char kind, int a, int b)
            throws IllegalArgumentException, IndexOutOfBoundsException, IllegalStateException {
        if (PATTERN_KINDS.indexOf(kind) < 0) {
            throw new IllegalArgumentException("no such kind of pattern");
        }
        if (!patternPartsExist(kind, a, b)) {
            throw new IndexOutOfBoundsException("no such part of a pattern");
        }
        if (patterns.isFull()) {
            throw new IllegalStateException("there are 50 patterns");
        }
        return patterns.add(kind, a, b);
    }

    public int term(char kind, int a, int b)
            throws IllegalArgumentException, IndexOutOfBoundsException, IllegalStateException {
        if (TERM_KINDS.indexOf(kind) < 0) {
            throw new IllegalArgumentException("no such kind of term");
        }
        if (!termPartsExist(kind, a, b)) {
            throw new IndexOutOfBoundsException("no such part of a term");
        }
        if (terms.isFull()) {
            throw new IllegalStateException("there are 50 terms");
        }
        return terms.add(kind, a, b);
    }

    public int assign(int variable, int term, int yes, int no)
            throws IndexOutOfBoundsException, IllegalArgumentException, IllegalStateException {
        needVariable(variable);
        needTerm(term);
        needWays(yes, no);
        needRoomForStatement();
        return program.add('a', variable, NONE, term, yes, no);
    }

    public int scan(int variable, int pattern, int term, int yes, int no)
            throws IndexOutOfBoundsException, IllegalArgumentException, IllegalStateException {
        needVariable(variable);
        needPattern(pattern);
        if (term != NONE) {
            needTerm(term);
        }
        needWays(yes, no);
        needRoomForStatement();
        return program.add('s', variable, pattern, term, yes, no);
    }

    public int call(int variable, int function, int term, int yes, int no)
            throws IndexOutOfBoundsException, IllegalArgumentException, IllegalStateException {
        needVariable(variable);
        needTerm(term);
        if (!isBelow(function, FUNCTIONS)) {
            throw new IllegalArgumentException("the function is out of range");
        }
        needWays(yes, no);
        needRoomForStatement();
        return program.add('c', variable, function, term, yes, no);
    }

    public boolean define(int function, int entry, int parameter, int local, int result)
            throws IllegalArgumentException, IndexOutOfBoundsException {
        if (!isBelow(function, FUNCTIONS) || !isBelow(entry, MOST_STATEMENTS)) {
            throw new IllegalArgumentException("the function or the statement is out of range");
        }
        if (parameter == local || parameter == result || local == result) {
            throw new IllegalArgumentException("two variables are the same");
        }
        needVariable(parameter);
        needVariable(local);
        needVariable(result);
        return program.tell(function, entry, parameter, local, result);
    }

    public boolean anchor(boolean is) {
        boolean before = anchored;
        anchored = is;
        return before;
    }

    public char run(int first, int steps) throws IllegalArgumentException, IndexOutOfBoundsException {
        if (steps < 1 || steps > MOST_STEPS) {
            throw new IllegalArgumentException("the number of steps is out of range");
        }
        needStatement(first);
        return runner.go(first, steps, anchored);
    }

    public int error() throws IllegalStateException, NoSuchElementException {
        needRun();
        if (runner.error == 0) {
            throw new NoSuchElementException("there was no error");
        }
        return runner.error;
    }

    public int last() throws IllegalStateException {
        needRun();
        return runner.last;
    }

    public int steps() throws IllegalStateException {
        needRun();
        return runner.steps;
    }

    public int done(int statement) throws IllegalStateException, IndexOutOfBoundsException {
        needRun();
        needStatement(statement);
        return runner.doneOften.get(statement);
    }

    public int failed(int statement) throws IllegalStateException, IndexOutOfBoundsException {
        needRun();
        needStatement(statement);
        return runner.failedOften.get(statement);
    }

    public int depth() throws IllegalStateException {
        needRun();
        return runner.depth;
    }

    public boolean match(int pattern) throws IndexOutOfBoundsException, ArithmeticException {
        needPattern(pattern);
        kept.copyAll(variables);
        matcher.prepare(typed, 0, pattern, anchored);
        int outcome = matcher.seek();
        if (outcome == Matcher.TOO_MANY) {
            variables.copyAll(kept);
            throw new ArithmeticException("more than 3000 patterns are begun");
        }
        everMatched = true;
        matched = outcome == Matcher.FOUND;
        matchBegun = matcher.begunCount;
        matchFrom = matcher.start;
        matchTo = matcher.cursor;
        matchLength = typed.length(0);
        if (matched) {
            matcher.assignTaken();
        }
        return matched;
    }

    public int from() throws IllegalStateException, NoSuchElementException {
        needMatch();
        needMatched();
        return matchFrom;
    }

    public int to() throws IllegalStateException, NoSuchElementException {
        needMatch();
        needMatched();
        return matchTo;
    }

    public int begun() throws IllegalStateException {
        needMatch();
        return matchBegun;
    }

    public int ways(int pattern) throws IndexOutOfBoundsException, ArithmeticException {
        needPattern(pattern);
        int count = findWays(pattern);
        if (count < 0) {
            variables.copyAll(kept);
            throw new ArithmeticException("more than 3000 patterns are begun");
        }
        return count;
    }

    public int way(int pattern, int index)
            throws IndexOutOfBoundsException, ArithmeticException, NoSuchElementException {
        needPattern(pattern);
        int count = findWays(pattern);
        if (count < 0) {
            variables.copyAll(kept);
            throw new ArithmeticException("more than 3000 patterns are begun");
        }
        if (!isBelow(index, count)) {
            variables.copyAll(kept);
            throw new NoSuchElementException("no such way");
        }
        return found.get(index);
    }

    public boolean work(int term) throws IndexOutOfBoundsException, ArithmeticException {
        needTerm(term);
        int outcome = reckoner.workOut(term);
        if (outcome > 0) {
            throw new ArithmeticException("the term is an error");
        }
        if (outcome == SUCCEEDS) {
            typed.copy(0, reckoner.values, term);
        }
        return outcome == SUCCEEDS;
    }

    public int typed(int place) throws NoSuchElementException {
        if (!typed.holds(0, place)) {
            throw new NoSuchElementException("no sign is typed there");
        }
        return typed.sign(0, place);
    }

    public int statements() {
        return program.count;
    }

    public float failShare() throws IllegalStateException {
        needRun();
        int failures = runner.failedOften.sum(MOST_STATEMENTS);
        int all = runner.steps;
        return all == 0 ? 0f : (float) failures / (float) all;
    }

    public double meanSize() throws ArithmeticException {
        int sum = 0;
        int number = 0;
        for (int variable = 0; variable < VARIABLES; variable++) {
            int length = variables.length(variable);
            sum += length;
            number += length > 0 ? 1 : 0;
        }
        if (number == 0) {
            throw new ArithmeticException("all variables are empty");
        }
        return (double) sum / (double) number;
    }

    public long checksum() {
        long sum = 7;
        for (int variable = 0; variable < VARIABLES; variable++) {
            int length = variables.length(variable);
            for (int place = 0; place < length; place++) {
                sum = 31 * sum + variables.sign(variable, place);
            }
            sum = 31 * sum + length;
        }
        return sum;
    }

    public boolean isSound() {
        for (int variable = 0; variable < VARIABLES; variable++) {
            if (variables.length(variable) > MOST_SIGNS) {
                return false;
            }
        }
        if (runner.ever && runner.steps != runner.doneOften.sum(MOST_STATEMENTS)) {
            return false;
        }
        // match() ends at the first way that is found, so the way itself needs only to lie in its subject.
        return !matched || 0 <= matchFrom && matchFrom <= matchTo && matchTo <= matchLength;
    }

    private static boolean isSign(int sign) {
        return sign >= 32 && sign <= 126 || sign >= 128512 && sign <= 128591;
    }

    private static boolean isBelow(int number, int count) {
        return number >= 0 && number < count;
    }

    private boolean patternPartsExist(char kind, int a, int b) {
        switch (kind) {
            case 'l':
            case 'n':
            case 'o':
            case 's':
            case 'k':
                return isBelow(a, textCount);
            case '|':
            case '&':
                return isBelow(a, patterns.count) && isBelow(b, patterns.count);
            case 'g':
                return isBelow(a, patterns.count);
            case '$':
            case '.':
                return isBelow(a, patterns.count) && isBelow(b, VARIABLES);
            case '@':
            case 'v':
                return isBelow(a, VARIABLES);
            case '#':
            case 't':
            case 'r':
            case 'p':
            case 'q':
                return a >= 0 && a <= MOST_SIGNS;
            default:
                return true;
        }
    }

    private boolean termPartsExist(char kind, int a, int b) {
        switch (kind) {
            case 't':
                return isBelow(a, textCount);
            case 'v':
                return isBelow(a, VARIABLES);
            case 'w':
            case '#':
            case 'r':
                return isBelow(a, terms.count);
            default:
                return isBelow(a, terms.count) && isBelow(b, terms.count);
        }
    }

    /** Lists the ways of a pattern, up to 200, and answers their number, or NONE if too many are begun. */
    private int findWays(int pattern) {
        kept.copyAll(variables);
        matcher.prepare(typed, 0, pattern, anchored);
        for (int count = 0; count < MOST_WAYS; count++) {
            int outcome = matcher.seek();
            if (outcome == Matcher.TOO_MANY) {
                return NONE;
            }
            if (outcome != Matcher.FOUND) {
                return count;
            }
            found.put(count, 100 * matcher.start + matcher.cursor);
        }
        return MOST_WAYS;
    }

    private static void needVariable(int variable) {
        if (!isBelow(variable, VARIABLES)) {
            throw new IndexOutOfBoundsException("no such variable");
        }
    }

    private void needPattern(int pattern) {
        if (!isBelow(pattern, patterns.count)) {
            throw new IndexOutOfBoundsException("no such pattern");
        }
    }

    private void needTerm(int term) {
        if (!isBelow(term, terms.count)) {
            throw new IndexOutOfBoundsException("no such term");
        }
    }

    private void needStatement(int statement) {
        if (!isBelow(statement, program.count)) {
            throw new IndexOutOfBoundsException("no such statement");
        }
    }

    private static void needWays(int yes, int no) {
        if (!Program.isWay(yes) || !Program.isWay(no)) {
            throw new IllegalArgumentException("a way is out of range");
        }
    }

    private void needRoomForStatement() {
        if (program.count >= MOST_STATEMENTS) {
            throw new IllegalStateException("there are 40 statements");
        }
    }

    private void needRun() {
        if (!runner.ever) {
            throw new IllegalStateException("nothing was run");
        }
    }

    private void needMatch() {
        if (!everMatched) {
            throw new IllegalStateException("nothing was matched");
        }
    }

    private void needMatched() {
        if (!matched) {
            throw new NoSuchElementException("it did not match");
        }
    }

    /** Numbers in a row; a place that it does not have reads 0 and takes nothing, so no index goes wrong. */
    private static final class Cells {
        private final int[] cells;

        Cells(int count) {
            cells = new int[count < 0 ? 0 : count];
        }

        int get(int place) {
            return place >= 0 && place < cells.length ? cells[place] : 0;
        }

        void put(int place, int number) {
            if (place >= 0 && place < cells.length) {
                cells[place] = number;
            }
        }

        void increase(int place) {
            put(place, get(place) + 1);
        }

        int sum(int count) {
            int sum = 0;
            for (int place = 0; place < count; place++) {
                sum += get(place);
            }
            return sum;
        }

        void clearAll() {
            for (int place = 0; place < cells.length; place++) {
                cells[place] = 0;
            }
        }
    }

    /** Values, each a row of signs up to a width; a row that it does not have is empty and takes nothing. */
    private static final class Rows {
        private final int width;
        private final int[] signs;
        private final int[] sizes;

        Rows(int rows, int width) {
            this.width = width;
            signs = new int[rows < 0 || width < 0 ? 0 : rows * width];
            sizes = new int[rows < 0 ? 0 : rows];
        }

        int length(int row) {
            return row >= 0 && row < sizes.length ? sizes[row] : 0;
        }

        boolean holds(int row, int place) {
            return row >= 0 && row < sizes.length && place >= 0 && place < sizes[row];
        }

        int sign(int row, int place) {
            if (row < 0 || row >= sizes.length || place < 0 || place >= sizes[row]) {
                return NONE;
            }
            int index = row * width + place;
            return index >= 0 && index < signs.length ? signs[index] : NONE;
        }

        void clear(int row) {
            if (row >= 0 && row < sizes.length) {
                sizes[row] = 0;
            }
        }

        void add(int row, int sign) {
            if (row < 0 || row >= sizes.length || sizes[row] >= width) {
                return;
            }
            int index = row * width + sizes[row];
            if (index >= 0 && index < signs.length) {
                signs[index] = sign;
                sizes[row]++;
            }
        }

        /** Adds the signs of another row from a place up to an end, if they all have room; answers whether so. */
        boolean append(int row, Rows other, int otherRow, int from, int end) {
            int count = end - from;
            if (row < 0 || row >= sizes.length || count < 0 || count > width - sizes[row]) {
                return false;
            }
            int target = row * width + sizes[row];
            int source = otherRow * other.width + from;
            for (int step = 0; step < count; step++) {
                int to = target + step;
                int at = source + step;
                if (to < 0 || to >= signs.length || at < 0 || at >= other.signs.length) {
                    return false;
                }
                signs[to] = other.signs[at];
            }
            sizes[row] += count;
            return true;
        }

        boolean appendAll(int row, Rows other, int otherRow) {
            return append(row, other, otherRow, 0, other.length(otherRow));
        }

        void copy(int row, Rows other, int otherRow) {
            clear(row);
            append(row, other, otherRow, 0, other.length(otherRow));
        }

        void copyAll(Rows other) {
            for (int row = 0; row < sizes.length; row++) {
                copy(row, other, row);
            }
        }

        boolean contains(int row, int sign) {
            if (row < 0 || row >= sizes.length) {
                return false;
            }
            int start = row * width;
            for (int place = 0; place < sizes[row]; place++) {
                int index = start + place;
                if (index >= 0 && index < signs.length && signs[index] == sign) {
                    return true;
                }
            }
            return false;
        }

        /** Answers whether another row begins just at a place of this one. */
        boolean hasThere(int row, int place, Rows other, int otherRow) {
            int length = other.length(otherRow);
            for (int step = 0; step < length; step++) {
                if (sign(row, place + step) != other.sign(otherRow, step)) {
                    return false;
                }
            }
            return true;
        }

        /** The number that a row is, or NO_NUMBER. */
        long readNumber(int row) {
            int start = sign(row, 0) == '-' ? 1 : 0;
            int length = length(row);
            if (length == start || length > start + MOST_DIGITS) {
                return NO_NUMBER;
            }
            long number = 0;
            for (int place = start; place < length; place++) {
                int digit = sign(row, place) - '0';
                if (digit < 0 || digit > 9) {
                    return NO_NUMBER;
                }
                number = 10 * number + digit;
            }
            return start == 1 ? -number : number;
        }

        /** Makes a row the number, which has at most 9 digits. */
        void writeNumber(int row, long number) {
            clear(row);
            if (number < 0) {
                add(row, '-');
            }
            long size = number < 0 ? -number : number;
            boolean begins = false;
            for (long unit = 100000000L; unit > 0; unit /= 10) {
                int digit = (int) (size / unit % 10);
                begins = begins || digit > 0 || unit == 1;
                if (begins) {
                    add(row, '0' + digit);
                }
            }
        }
    }

    /** Patterns or terms: what is numbered, of a kind, and made of two numbers. */
    private static final class Book {
        private final int most;
        private final Cells kinds;
        private final Cells firsts;
        private final Cells seconds;
        private int count;

        Book(int most) {
            this.most = most;
            kinds = new Cells(most);
            firsts = new Cells(most);
            seconds = new Cells(most);
        }

        boolean isFull() {
            return count >= most;
        }

        int add(char kind, int a, int b) {
            int number = count;
            kinds.put(number, kind);
            firsts.put(number, a);
            seconds.put(number, b);
            count++;
            return number;
        }
    }

    /**
     * Finds the ways of a pattern one after the other. What is still to be done behind a pattern stands in
     * nodes that point to the next one; what can be gone back over stands in a pile of choices. What a node
     * or a choice means is told by the kind of the pattern that made it.
     */
    private static final class Matcher {
        static final int FOUND = 1;
        static final int ENDED = 2;
        static final int TOO_MANY = 3;
        private static final int BEGIN = 4;
        private static final int SINGLE = 5;
        private static final int BALANCE = 6;
        /** A choice is left open, then it goes on. */
        private static final int LEAVE_OPEN = 7;
        private static final int GO_ON = 8;
        private static final int BACK = 9;
        /** A pattern that is begun makes a node and a choice at most, and one of each more as it is repeated. */
        private static final int ROOM = 2 * MOST_BEGUN;
        /** Between two patterns begun there are at most some fifty nodes, one for each pattern around. */
        private static final int MOST_TURNS = 10000000;

        private final Book patterns;
        private final Rows texts;
        private final Rows variables;
        private final Rows subject = new Rows(1, MOST_SIGNS);
        private final Pile nodes = new Pile(ROOM);
        private final Pile choices = new Pile(ROOM);
        /** How much was taken as each choice was left open. */
        private final Cells takenThen = new Cells(ROOM);
        /** What '.' took: the variable, and where it begins and ends. */
        private final Pile taken = new Pile(MOST_BEGUN);
        private int top;
        private boolean onlyFirst;
        private int length;
        private int start;
        private int begunCount;
        /** The pattern in hand, the cursor, and the node behind the pattern. */
        private int goal;
        private int cursor;
        private int rest;

        Matcher(Book patterns, Rows texts, Rows variables) {
            this.patterns = patterns;
            this.texts = texts;
            this.variables = variables;
        }

        void prepare(Rows source, int row, int pattern, boolean anchored) {
            subject.copy(0, source, row);
            length = subject.length(0);
            top = pattern;
            onlyFirst = anchored;
            start = NONE;
            begunCount = 0;
            nodes.count = 0;
            choices.count = 0;
        }

        /** Goes back over the way that was found last, if there was one, and on to the next. */
        int seek() {
            int mode = BACK;
            for (int turn = 0; turn < MOST_TURNS; turn++) {
                switch (mode) {
                    case BEGIN:
                        mode = begin();
                        break;
                    case SINGLE:
                        mode = goTo(endOfSingle());
                        break;
                    case BALANCE:
                        mode = balance();
                        break;
                    case LEAVE_OPEN:
                        addChoice();
                        mode = GO_ON;
                        break;
                    case GO_ON:
                        mode = goOn();
                        break;
                    case BACK:
                        mode = goBack();
                        break;
                    default:
                        return mode;
                }
            }
            return TOO_MANY;
        }

        void assignTaken() {
            for (int index = 0; index < taken.count; index++) {
                capture(taken.first(index), taken.second(index), taken.third(index));
            }
        }

        /** Makes a row what the subject is with a value in the place of what was matched, if it has room. */
        boolean replace(Rows target, int row, Rows source, int sourceRow) {
            target.clear(row);
            return target.append(row, subject, 0, 0, start)
                    && target.appendAll(row, source, sourceRow)
                    && target.append(row, subject, 0, cursor, length);
        }

        private void capture(int variable, int from, int end) {
            variables.clear(variable);
            variables.append(variable, subject, 0, from, end);
        }

        private int beginAtNextCursor() {
            start++;
            if (start > length || onlyFirst && start > 0) {
                return ENDED;
            }
            cursor = start;
            rest = NONE;
            taken.count = 0;
            return beginPart(top);
        }

        private int begin() {
            if (begunCount >= MOST_BEGUN) {
                return TOO_MANY;
            }
            begunCount++;
            switch (patterns.kinds.get(goal)) {
                case '&':
                case '$':
                case '.':
                    addNode();
                    return beginPart(patterns.firsts.get(goal));
                case '|':
                    addChoice();
                    return beginPart(patterns.firsts.get(goal));
                case 'g':
                case '*':
                case 'f':
                    return LEAVE_OPEN;
                case 'x':
                    return BALANCE;
                case 'z':
                    return ENDED;
                case '@':
                    variables.writeNumber(patterns.firsts.get(goal), cursor);
                    return GO_ON;
                default:
                    return SINGLE;
            }
        }

        private int goOn() {
            if (rest == NONE) {
                return FOUND;
            }
            goal = nodes.first(rest);
            int from = nodes.second(rest);
            rest = nodes.third(rest);
            switch (patterns.kinds.get(goal)) {
                case '&':
                    return beginPart(patterns.seconds.get(goal));
                case '$':
                    capture(patterns.seconds.get(goal), from, cursor);
                    return GO_ON;
                case '.':
                    taken.push(patterns.seconds.get(goal), from, cursor);
                    return GO_ON;
                default:
                    return cursor == from ? BACK : LEAVE_OPEN;
            }
        }

        private int goBack() {
            if (choices.count <= 0) {
                return beginAtNextCursor();
            }
            choices.count--;
            goal = choices.first(choices.count);
            cursor = choices.second(choices.count);
            rest = choices.third(choices.count);
            taken.count = takenThen.get(choices.count);
            switch (patterns.kinds.get(goal)) {
                case '|':
                    return beginPart(patterns.seconds.get(goal));
                case 'g':
                    addNode();
                    return beginPart(patterns.firsts.get(goal));
                case '*':
                    cursor++;
                    return cursor <= length ? LEAVE_OPEN : BACK;
                case 'x':
                    return BALANCE;
                default:
                    return ENDED;
            }
        }

        private void addNode() {
            nodes.push(goal, cursor, rest);
            rest = nodes.count - 1;
        }

        private void addChoice() {
            takenThen.put(choices.count, taken.count);
            choices.push(goal, cursor, rest);
        }

        private int beginPart(int pattern) {
            goal = pattern;
            return BEGIN;
        }

        private int goTo(int end) {
            if (end == NONE) {
                return BACK;
            }
            cursor = end;
            return GO_ON;
        }

        /** Goes to where balanced signs end next; what stands between two such ends is balanced itself. */
        private int balance() {
            int open = 0;
            for (int place = cursor; place < length; place++) {
                int sign = subject.sign(0, place);
                open += sign == '(' ? 1 : sign == ')' ? -1 : 0;
                if (open < 0) {
                    return BACK;
                }
                if (open == 0) {
                    cursor = place + 1;
                    return LEAVE_OPEN;
                }
            }
            return BACK;
        }

        /** The cursor at which the pattern in hand ends, which has one way at most, or NONE. */
        private int endOfSingle() {
            int a = patterns.firsts.get(goal);
            switch (patterns.kinds.get(goal)) {
                case 'l':
                    return subject.hasThere(0, cursor, texts, a) ? cursor + texts.length(a) : NONE;
                case 'v':
                    return subject.hasThere(0, cursor, variables, a) ? cursor + variables.length(a) : NONE;
                case 'n':
                    return cursor < length && texts.contains(a, subject.sign(0, cursor)) ? cursor + 1 : NONE;
                case 'o':
                    return cursor < length && !texts.contains(a, subject.sign(0, cursor)) ? cursor + 1 : NONE;
                case 's':
                    return endOfSpan(a);
                case 'k':
                    return endOfBreak(a);
                case '#':
                    return cursor + a <= length ? cursor + a : NONE;
                case 't':
                    return a >= cursor && a <= length ? a : NONE;
                case 'r':
                    return length - a >= cursor ? length - a : NONE;
                case 'p':
                    return cursor == a ? cursor : NONE;
                case 'q':
                    return cursor == length - a ? cursor : NONE;
                case 'm':
                    return length;
                default:
                    return NONE;
            }
        }

        private int endOfSpan(int text) {
            int end = cursor;
            while (end < length && texts.contains(text, subject.sign(0, end))) {
                end++;
            }
            return end > cursor ? end : NONE;
        }

        private int endOfBreak(int text) {
            int end = cursor;
            while (end < length && !texts.contains(text, subject.sign(0, end))) {
                end++;
            }
            return end < length ? end : NONE;
        }
    }

    /** Entries of three numbers, one above the other. */
    private static final class Pile {
        private final int[] firsts;
        private final int[] seconds;
        private final int[] thirds;
        private int count;

        Pile(int most) {
            firsts = new int[most < 0 ? 0 : most];
            seconds = new int[most < 0 ? 0 : most];
            thirds = new int[most < 0 ? 0 : most];
        }

        void push(int first, int second, int third) {
            if (count >= 0 && count < firsts.length && count < seconds.length && count < thirds.length) {
                firsts[count] = first;
                seconds[count] = second;
                thirds[count] = third;
                count++;
            }
        }

        int first(int entry) {
            return entry >= 0 && entry < firsts.length ? firsts[entry] : 0;
        }

        int second(int entry) {
            return entry >= 0 && entry < seconds.length ? seconds[entry] : 0;
        }

        int third(int entry) {
            return entry >= 0 && entry < thirds.length ? thirds[entry] : 0;
        }
    }

    /** Works terms out, each needed one once, by their numbers. */
    private static final class Reckoner {
        private final Book terms;
        private final Rows texts;
        private final Rows variables;
        private final Rows values = new Rows(MOST_TERMS, MOST_SIGNS);
        private final Cells needed = new Cells(MOST_TERMS);

        Reckoner(Book terms, Rows texts, Rows variables) {
            this.terms = terms;
            this.texts = texts;
            this.variables = variables;
        }

        /** SUCCEEDS with the value in the term's row of the values, or FAILS, or the number of an error. */
        int workOut(int term) {
            markNeeded(term);
            for (int number = 0; number <= term && number < MOST_TERMS; number++) {
                if (needed.get(number) == 1) {
                    values.clear(number);
                    int outcome = isOfNumbers(terms.kinds.get(number)) ? reckon(number) : form(number);
                    if (outcome != SUCCEEDS) {
                        return outcome;
                    }
                }
            }
            return SUCCEEDS;
        }

        private void markNeeded(int term) {
            needed.clearAll();
            needed.put(term, 1);
            for (int number = term; number >= 0; number--) {
                int kind = terms.kinds.get(number);
                if (needed.get(number) == 1 && kind != 't' && kind != 'v') {
                    needed.put(terms.firsts.get(number), 1);
                    if (kind != 'w' && kind != '#' && kind != 'r') {
                        needed.put(terms.seconds.get(number), 1);
                    }
                }
            }
        }

        private static boolean isOfNumbers(int kind) {
            return kind == '+' || kind == '-' || kind == '*' || kind == '/' || kind == '<' || kind == 'd';
        }

        private int reckon(int number) {
            int kind = terms.kinds.get(number);
            int a = terms.firsts.get(number);
            long left = kind == 'd' ? 0 : values.readNumber(a);
            long right = values.readNumber(terms.seconds.get(number));
            if (left == NO_NUMBER || right == NO_NUMBER) {
                return ERROR_NUMBER;
            }
            long value = 0;
            switch (kind) {
                case '+':
                    value = left + right;
                    break;
                case '-':
                    value = left - right;
                    break;
                case '*':
                    value = left * right;
                    break;
                case '/':
                    if (right == 0) {
                        return ERROR_DIVISION;
                    }
                    value = left / right;
                    break;
                case '<':
                    return left < right ? SUCCEEDS : FAILS;
                default:
                    return formRepeated(number, a, right);
            }
            if (value > MOST_NUMBER || value < -MOST_NUMBER) {
                return ERROR_NUMBER;
            }
            values.writeNumber(number, value);
            return SUCCEEDS;
        }

        private int formRepeated(int number, int a, long often) {
            if (often < 0 || often > MOST_SIGNS) {
                return ERROR_NUMBER;
            }
            for (int time = 0; time < often; time++) {
                if (!values.append(number, values, a, 0, values.length(a))) {
                    return ERROR_LONG;
                }
            }
            return SUCCEEDS;
        }

        private int form(int number) {
            int a = terms.firsts.get(number);
            int b = terms.seconds.get(number);
            switch (terms.kinds.get(number)) {
                case 't':
                    values.copy(number, texts, a);
                    return SUCCEEDS;
                case 'v':
                    values.copy(number, variables, a);
                    return SUCCEEDS;
                case 'w':
                    int variable = variableNamed(a);
                    if (variable == NONE) {
                        return ERROR_NAME;
                    }
                    values.copy(number, variables, variable);
                    return SUCCEEDS;
                case '&':
                    return values.appendAll(number, values, a) && values.appendAll(number, values, b)
                            ? SUCCEEDS : ERROR_LONG;
                case '#':
                    values.writeNumber(number, values.length(a));
                    return SUCCEEDS;
                case 'r':
                    formBackward(number, a);
                    return SUCCEEDS;
                default:
                    return values.length(a) == values.length(b) && values.hasThere(a, 0, values, b)
                            ? SUCCEEDS : FAILS;
            }
        }

        private int variableNamed(int a) {
            int variable = values.sign(a, 0) - 'a';
            return values.length(a) == 1 && isBelow(variable, VARIABLES) ? variable : NONE;
        }

        private void formBackward(int number, int a) {
            for (int place = values.length(a) - 1; place >= 0; place--) {
                values.add(number, values.sign(a, place));
            }
        }
    }

    /** The statements and the functions that were told. */
    private static final class Program {
        static final int NEXT = -1;
        static final int BACK_WITH_SUCCESS = -2;
        static final int THE_END = -4;

        private final Cells kinds = new Cells(MOST_STATEMENTS);
        private final Cells variables = new Cells(MOST_STATEMENTS);
        /** The pattern of a scan, the function of a call. */
        private final Cells parts = new Cells(MOST_STATEMENTS);
        private final Cells terms = new Cells(MOST_STATEMENTS);
        private final Cells yes = new Cells(MOST_STATEMENTS);
        private final Cells no = new Cells(MOST_STATEMENTS);
        private int count;
        private final Cells isTold = new Cells(FUNCTIONS);
        private final Cells entries = new Cells(FUNCTIONS);
        /** The parameter, the local and the result of each function, one behind the other. */
        private final Cells names = new Cells(3 * FUNCTIONS);

        static boolean isWay(int way) {
            return way >= THE_END && way < MOST_STATEMENTS;
        }

        int add(char kind, int variable, int part, int term, int byYes, int byNo) {
            int number = count;
            kinds.put(number, kind);
            variables.put(number, variable);
            parts.put(number, part);
            terms.put(number, term);
            yes.put(number, byYes);
            no.put(number, byNo);
            count++;
            return number;
        }

        boolean tell(int function, int entry, int parameter, int local, int result) {
            boolean before = isTold.get(function) == 1;
            isTold.put(function, 1);
            entries.put(function, entry);
            names.put(3 * function, parameter);
            names.put(3 * function + 1, local);
            names.put(3 * function + 2, result);
            return before;
        }
    }

    /** Does statements one after the other and counts what came of them. */
    private static final class Runner {
        private static final int END = -1;
        private static final int BROKEN = -2;

        private final Program program;
        private final Matcher matcher;
        private final Reckoner reckoner;
        private final Rows variables;
        private final Rows scratch = new Rows(1, MOST_SIGNS);
        private final Cells callers = new Cells(MOST_CALLS);
        private final Rows saved = new Rows(3 * MOST_CALLS, MOST_SIGNS);
        private final Cells doneOften = new Cells(MOST_STATEMENTS);
        private final Cells failedOften = new Cells(MOST_STATEMENTS);
        private boolean anchored;
        private boolean ever;
        private int error;
        private int last;
        private int steps;
        private int depth;

        Runner(Program program, Matcher matcher, Reckoner reckoner, Rows variables) {
            this.program = program;
            this.matcher = matcher;
            this.reckoner = reckoner;
            this.variables = variables;
        }

        char go(int first, int most, boolean anchoredNow) {
            ever = true;
            anchored = anchoredNow;
            error = 0;
            steps = 0;
            depth = 0;
            doneOften.clearAll();
            failedOften.clearAll();
            int place = first;
            for (int step = 0; step < most; step++) {
                last = place;
                steps++;
                doneOften.increase(place);
                int outcome;
                switch (program.kinds.get(place)) {
                    case 'a':
                        outcome = doAssignment(place);
                        break;
                    case 's':
                        outcome = doScan(place);
                        break;
                    default:
                        outcome = doCall(place);
                }
                place = placeBehind(place, outcome);
                if (place == END) {
                    return 'd';
                }
                if (place == BROKEN) {
                    return 'x';
                }
            }
            return 'l';
        }

        /** The statement to go on at, or END, or BROKEN. */
        private int placeBehind(int statement, int outcome) {
            if (outcome > 0) {
                return breakOff(outcome);
            }
            if (outcome == ENTERS) {
                return placeOf(program.entries.get(program.parts.get(statement)));
            }
            return leave(statement, outcome == SUCCEEDS);
        }

        private int doAssignment(int statement) {
            int term = program.terms.get(statement);
            int outcome = reckoner.workOut(term);
            if (outcome == SUCCEEDS) {
                variables.copy(program.variables.get(statement), reckoner.values, term);
            }
            return outcome;
        }

        private int doScan(int statement) {
            int variable = program.variables.get(statement);
            matcher.prepare(variables, variable, program.parts.get(statement), anchored);
            int sought = matcher.seek();
            if (sought == Matcher.TOO_MANY) {
                return ERROR_BEGUN;
            }
            if (sought != Matcher.FOUND) {
                return FAILS;
            }
            matcher.assignTaken();
            int term = program.terms.get(statement);
            if (term == NONE) {
                return SUCCEEDS;
            }
            int outcome = reckoner.workOut(term);
            if (outcome != SUCCEEDS) {
                return outcome;
            }
            if (!matcher.replace(scratch, 0, reckoner.values, term)) {
                return ERROR_LONG;
            }
            variables.copy(variable, scratch, 0);
            return SUCCEEDS;
        }

        private int doCall(int statement) {
            int term = program.terms.get(statement);
            int outcome = reckoner.workOut(term);
            if (outcome != SUCCEEDS) {
                return outcome;
            }
            int function = program.parts.get(statement);
            if (program.isTold.get(function) != 1 || depth >= MOST_CALLS) {
                return ERROR_CALL;
            }
            for (int index = 0; index < 3; index++) {
                int name = program.names.get(3 * function + index);
                saved.copy(3 * depth + index, variables, name);
                variables.clear(name);
            }
            variables.copy(program.names.get(3 * function), reckoner.values, term);
            callers.put(depth, statement);
            depth++;
            return ENTERS;
        }

        /** Goes on behind a statement, and behind each call that is back by that. */
        private int leave(int statement, boolean success) {
            int from = statement;
            boolean succeeds = success;
            for (int back = 0; back <= MOST_CALLS; back++) {
                if (!succeeds) {
                    failedOften.increase(from);
                }
                int way = succeeds ? program.yes.get(from) : program.no.get(from);
                if (way == Program.THE_END || way == Program.NEXT && from + 1 == program.count) {
                    return END;
                }
                if (way == Program.NEXT) {
                    return from + 1;
                }
                if (way >= 0) {
                    return placeOf(way);
                }
                if (depth == 0) {
                    return breakOff(ERROR_BACK);
                }
                succeeds = way == Program.BACK_WITH_SUCCESS;
                from = comeBack(succeeds);
            }
            return breakOff(ERROR_BACK);
        }

        /** Ends the innermost call and answers its statement. */
        private int comeBack(boolean succeeds) {
            depth--;
            int statement = callers.get(depth);
            int function = program.parts.get(statement);
            scratch.copy(0, variables, program.names.get(3 * function + 2));
            for (int index = 0; index < 3; index++) {
                variables.copy(program.names.get(3 * function + index), saved, 3 * depth + index);
            }
            if (succeeds) {
                variables.copy(program.variables.get(statement), scratch, 0);
            }
            return statement;
        }

        private int placeOf(int way) {
            return isBelow(way, program.count) ? way : breakOff(ERROR_PLACE);
        }

        private int breakOff(int number) {
            error = number;
            return BROKEN;
        }
    }
}
