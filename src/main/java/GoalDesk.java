import java.util.Arrays;
import java.util.NoSuchElementException;

/**
 * A desk for logic: clauses are read, questions are asked, and answers come one after another.
 *
 * A term is never copied: it is a pair of a node (a place in a text that was read) and an
 * environment (the number of the first variable of that use of the text).
 */
public final class GoalDesk {
    private static final int NONE = -1;
    private static final int TEXT_LIMIT = 48;
    private static final int CLAUSE_LIMIT = 12;
    private static final int STEP_LIMIT = 500;
    private static final int WRITTEN_LIMIT = 80;
    private static final int DEPTH_LIMIT = 6;
    private static final int ARGUMENT_LIMIT = 3;
    private static final int VARIABLE_NAMES = 26;
    private static final int QUESTION_PAGE = 0;

    private final Text text;
    private final Book book;
    private final Reader reader;
    private final Clauses clauses;
    private final Store store;
    private final Matcher matcher;
    private final Search search;
    private final Writer writer;
    private final Value value;
    private int place;
    private boolean asked;
    private int answers;

    public GoalDesk() {
        text = new Text();
        book = new Book();
        reader = new Reader(book, text);
        clauses = new Clauses(book);
        store = new Store(book);
        matcher = new Matcher(book, store);
        search = new Search(book, clauses, store, matcher);
        writer = new Writer(book, store);
        value = new Value();
        place = NONE;
    }

    public int type(long eight) throws IllegalArgumentException, IllegalStateException {
        int more = 0;
        for (int shift = 56; shift >= 0; shift -= 8) {
            int code = byteOf(eight, shift);
            if (code != 0 && (code < 33 || code > 126)) {
                throw new IllegalArgumentException("a byte is not 33 .. 126");
            }
            more += code == 0 ? 0 : 1;
        }
        if (text.length() + more > TEXT_LIMIT) {
            throw new IllegalStateException("the text would be too long");
        }
        for (int shift = 56; shift >= 0; shift -= 8) {
            text.append(byteOf(eight, shift));
        }
        return text.length();
    }

    public int add() throws IllegalArgumentException, IllegalStateException {
        if (clauses.size() >= CLAUSE_LIMIT) {
            text.clear();
            throw new IllegalStateException("12 clauses are there");
        }
        boolean right = reader.readClause(clauses.freePage());
        text.clear();
        if (!right) {
            place = reader.place();
            throw new IllegalArgumentException("the text is no clause");
        }
        clauses.keepFreePage();
        asked = false;
        return clauses.size();
    }

    public void drop(int i) throws IllegalArgumentException {
        if (i < 0 || i >= clauses.size()) {
            throw new IllegalArgumentException("there is no such clause");
        }
        clauses.remove(i);
        asked = false;
    }

    public int ask() throws IllegalArgumentException, NoSuchElementException,
            IllegalStateException, UnsupportedOperationException {
        asked = false;
        boolean right = reader.readQuestion(QUESTION_PAGE);
        text.clear();
        if (!right) {
            place = reader.place();
            throw new IllegalArgumentException("the text is no question");
        }
        answers = 0;
        search.begin();
        return conclude(search.seek(Outcome.DONE));
    }

    public int next() throws NoSuchElementException, IllegalStateException,
            UnsupportedOperationException {
        if (!asked) {
            throw new NoSuchElementException("nothing is asked");
        }
        return conclude(search.seek(Outcome.FAILED));
    }

    public int letter(int v, int i) throws IllegalArgumentException, NoSuchElementException {
        if (!isVariableName(v)) {
            throw new IllegalArgumentException("the variable is not 0 .. 25");
        }
        int node = questionNode(v);
        if (node == NONE) {
            throw new NoSuchElementException("there is no such variable");
        }
        int length = writer.write(node);
        if (i == NONE) {
            return length;
        }
        if (i < 0 || i >= length) {
            throw new NoSuchElementException("there is no such character");
        }
        return writer.characterAt(i);
    }

    public int sleeping(int v) throws IllegalArgumentException {
        if (!isVariableName(v)) {
            throw new IllegalArgumentException("the variable is not 0 .. 25");
        }
        int node = questionNode(v);
        if (node == NONE) {
            return NONE;
        }
        store.find(node, 0, value);
        return value.variable == NONE ? 0 : store.sleepersOn(value.variable);
    }

    public int count(int what) {
        switch (what) {
            case 0:
                return place;
            case 1:
                return text.length();
            case 2:
                return clauses.size();
            case 3:
                return asked ? answers : 0;
            case 4:
                return asked ? search.choicesLeft() : 0;
            case 5:
                return asked ? store.apartsWaiting() : 0;
            case 6:
                return asked ? store.variablesMade() : 0;
            default:
                return NONE;
        }
    }

    private static int byteOf(long eight, int shift) {
        return (int) (eight >>> shift) & 255;
    }

    private static boolean isVariableName(int v) {
        return v >= 0 && v < VARIABLE_NAMES;
    }

    /** A node of the question that is the variable v, or NONE. */
    private int questionNode(int v) {
        return asked ? book.nodeWithSign(QUESTION_PAGE, 'A' + v) : NONE;
    }

    private int conclude(Outcome outcome) {
        asked = outcome == Outcome.ANSWER;
        if (asked) {
            answers++;
            return matcher.stepsTaken();
        }
        if (outcome == Outcome.TOO_MANY_STEPS) {
            throw new IllegalStateException("500 steps were taken");
        }
        if (outcome == Outcome.NO_DIGITS) {
            throw new UnsupportedOperationException("only digits can be less");
        }
        throw new NoSuchElementException("there is no further answer");
    }

    /** What came of a piece of work; the search tells by it what is to be done next. */
    private enum Outcome {
        DONE, FAILED, PAIRS, TESTS, WOKEN, NEW_APART,
        ANSWER, NO_ANSWER, TOO_MANY_STEPS, NO_DIGITS
    }

    /** What a term stands for at last: a node with its environment; also its number if it is a variable. */
    private static final class Value {
        private int node;
        private int env;
        private int variable;
    }

    /** The text that was typed and not yet read. */
    private static final class Text {
        private final char[] characters;
        private int length;

        Text() {
            characters = new char[TEXT_LIMIT];
        }

        int length() {
            return length;
        }

        /** The character there, or 0 behind the end. */
        int at(int i) {
            return i >= 0 && i < length && i < characters.length ? characters[i] : 0;
        }

        void append(int code) {
            if (code != 0 && length < characters.length) {
                characters[length] = (char) code;
                length++;
            }
        }

        void clear() {
            length = 0;
        }
    }

    /** Rows of numbers, used as a stack or by index; an index outside reads 0, so no use of it throws. */
    private static final class Table {
        private static final int FEWEST_COLUMNS = 4;
        private static final int FIRST_ROWS = 8;
        private static final int MOST_ITEMS = 1 << 20;

        private final int width;
        private int[] items;
        private int rows;

        Table(int columns) {
            width = Math.max(columns, FEWEST_COLUMNS);
            items = new int[FIRST_ROWS * width];
        }

        int rows() {
            return rows;
        }

        int at(int row, int column) {
            int index = row * width + column;
            return index >= 0 && index < items.length ? items[index] : 0;
        }

        void put(int row, int column, int number) {
            int index = row * width + column;
            if (index < 0 || index >= MOST_ITEMS) {
                return;
            }
            if (index >= items.length) {
                items = Arrays.copyOf(items, Math.max(index + 1, 2 * items.length));
            }
            items[index] = number;
        }

        /** Adds a row that begins with these four numbers; answers its index. */
        int append(int a, int b, int c, int d) {
            int start = rows * width;
            if (start < 0 || start + width > MOST_ITEMS) {
                return NONE;
            }
            if (start + width > items.length) {
                items = Arrays.copyOf(items, start + width + items.length);
            }
            items[start] = a;
            items[start + 1] = b;
            items[start + 2] = c;
            items[start + 3] = d;
            rows++;
            return rows - 1;
        }

        void shrink(int fewer) {
            if (fewer >= 0 && fewer < rows) {
                rows = fewer;
            }
        }
    }

    /**
     * The texts that were read, a page each. The node of a term or goal is the place of its first
     * character, counted through all pages; so a goal T=T and its first T have the same node.
     */
    private static final class Book {
        private static final int CUT = '!';
        private static final int SAME = '=';
        private static final int APART = '~';
        private static final int LESS = '<';
        private static final int SLEEP = '?';
        private static final int CALL = '(';

        private static final int SIGN = 0;
        private static final int ARITY = 1;
        private static final int ARGUMENT = 2;
        private static final int KIND = 5;
        private static final int RIGHT = 6;
        private static final int FOLLOWER = 7;
        private static final int RANK = 8;
        private static final int NODE_COLUMNS = 9;

        private static final int NAMES = 0;
        private static final int FIRST_GOAL = 1;
        private static final int PAGE_COLUMNS = 2;

        private final Table nodes;
        private final Table pages;

        Book() {
            nodes = new Table(NODE_COLUMNS);
            pages = new Table(PAGE_COLUMNS);
        }

        static int firstNode(int page) {
            return page * TEXT_LIMIT;
        }

        static boolean isCapital(int sign) {
            return sign >= 'A' && sign <= 'Z';
        }

        static boolean isDigit(int sign) {
            return sign >= '0' && sign <= '9';
        }

        static boolean isSmall(int sign) {
            return sign >= 'a' && sign <= 'z';
        }

        void clearPage(int page) {
            pages.put(page, NAMES, 0);
            pages.put(page, FIRST_GOAL, NONE);
            for (int i = 0; i < TEXT_LIMIT; i++) {
                nodes.put(firstNode(page) + i, SIGN, 0);
            }
        }

        void noteTerm(int page, int node, int sign) {
            nodes.put(node, SIGN, sign);
            nodes.put(node, ARITY, 0);
            nodes.put(node, RANK, NONE);
            if (isCapital(sign)) {
                pages.put(page, NAMES, pages.at(page, NAMES) | 1 << sign - 'A');
            }
        }

        void noteArgument(int node, int i, int argument) {
            nodes.put(node, ARGUMENT + i, argument);
            nodes.put(node, ARITY, i + 1);
        }

        /** A goal is taken to be the last one until noteFollower says more. */
        void noteGoal(int goal, int kind, int right) {
            nodes.put(goal, KIND, kind);
            nodes.put(goal, RIGHT, right);
            nodes.put(goal, FOLLOWER, NONE);
        }

        void noteFollower(int goal, int follower) {
            nodes.put(goal, FOLLOWER, follower);
        }

        void noteFirstGoal(int page, int goal) {
            pages.put(page, FIRST_GOAL, goal);
        }

        /** Only when the whole page is read is it known which variables come before another. */
        void rankVariables(int page) {
            int names = pages.at(page, NAMES);
            for (int i = 0; i < TEXT_LIMIT; i++) {
                int node = firstNode(page) + i;
                int sign = sign(node);
                if (isCapital(sign)) {
                    nodes.put(node, RANK, Integer.bitCount(names & (1 << sign - 'A') - 1));
                }
            }
        }

        int sign(int node) {
            return nodes.at(node, SIGN);
        }

        int arity(int node) {
            return Math.min(nodes.at(node, ARITY), ARGUMENT_LIMIT);
        }

        int argument(int node, int i) {
            return nodes.at(node, ARGUMENT + i);
        }

        int kind(int goal) {
            return nodes.at(goal, KIND);
        }

        int right(int goal) {
            return nodes.at(goal, RIGHT);
        }

        int follower(int goal) {
            return nodes.at(goal, FOLLOWER);
        }

        int firstGoal(int page) {
            return pages.at(page, FIRST_GOAL);
        }

        int variablesOf(int page) {
            return Integer.bitCount(pages.at(page, NAMES));
        }

        /** How many variables of its page come before this one in the order of A .. Z; NONE if it is none. */
        int rank(int node) {
            return nodes.at(node, RANK);
        }

        boolean alike(int node, int other) {
            return sign(node) == sign(other) && arity(node) == arity(other);
        }

        int nodeWithSign(int page, int sign) {
            for (int i = 0; i < TEXT_LIMIT; i++) {
                if (sign(firstNode(page) + i) == sign) {
                    return firstNode(page) + i;
                }
            }
            return NONE;
        }
    }

    /** Reads the text into a page; where it stops is the place of the fault, if there is one. */
    private static final class Reader {
        private final Book book;
        private final Text text;
        private int page;
        private int at;

        Reader(Book book, Text text) {
            this.book = book;
            this.text = text;
        }

        int place() {
            return at;
        }

        boolean readClause(int freePage) {
            begin(freePage);
            boolean right = Book.isSmall(text.at(at)) && readTerm(1);
            if (right && !atEnd()) {
                right = readSign(':') && readGoals();
            }
            book.rankVariables(page);
            return right;
        }

        boolean readQuestion(int freePage) {
            begin(freePage);
            boolean right = readGoals();
            book.rankVariables(page);
            return right;
        }

        private void begin(int freePage) {
            page = freePage;
            at = 0;
            book.clearPage(page);
        }

        private int node() {
            return Book.firstNode(page) + at;
        }

        private boolean atEnd() {
            return at >= text.length();
        }

        private boolean readSign(int sign) {
            if (text.at(at) != sign) {
                return false;
            }
            at++;
            return true;
        }

        private boolean readGoals() {
            book.noteFirstGoal(page, node());
            for (int i = 0; i < TEXT_LIMIT; i++) {
                int goal = node();
                if (!readGoal()) {
                    return false;
                }
                if (atEnd()) {
                    return true;
                }
                if (!readSign(',')) {
                    return false;
                }
                book.noteFollower(goal, node());
            }
            return false;
        }

        private boolean readGoal() {
            int goal = node();
            int sign = text.at(at);
            if (readSign(Book.CUT)) {
                book.noteGoal(goal, Book.CUT, NONE);
                return true;
            }
            if (!readTerm(1)) {
                return false;
            }
            int kind = text.at(at);
            if (kind == Book.SAME || kind == Book.APART || kind == Book.LESS) {
                at++;
                book.noteGoal(goal, kind, node());
                return readTerm(1);
            }
            if (kind == Book.SLEEP) {
                at++;
                book.noteGoal(goal, kind, node());
                book.noteGoal(node(), Book.CALL, NONE);
                return Book.isSmall(text.at(at)) && readTerm(1);
            }
            book.noteGoal(goal, Book.CALL, NONE);
            return Book.isSmall(sign);
        }

        private boolean readTerm(int depth) {
            int sign = text.at(at);
            boolean small = Book.isSmall(sign);
            if (depth > DEPTH_LIMIT || !small && !Book.isCapital(sign) && !Book.isDigit(sign)) {
                return false;
            }
            int term = node();
            book.noteTerm(page, term, sign);
            at++;
            // At the deepest level a ( is left for the caller, who can't go on with it.
            if (!small || depth == DEPTH_LIMIT || !readSign('(')) {
                return true;
            }
            for (int i = 0; i < ARGUMENT_LIMIT; i++) {
                book.noteArgument(term, i, node());
                if (!readTerm(depth + 1)) {
                    return false;
                }
                if (readSign(')')) {
                    return true;
                }
                if (i == ARGUMENT_LIMIT - 1 || !readSign(',')) {
                    return false;
                }
            }
            return false;
        }
    }

    /** The clauses in their order, each with the page that it was read into. */
    private static final class Clauses {
        private final Book book;
        private final int[] pages;
        private int size;

        Clauses(Book book) {
            this.book = book;
            pages = new int[CLAUSE_LIMIT];
            for (int i = 0; i < CLAUSE_LIMIT; i++) {
                pages[i] = QUESTION_PAGE + 1 + i;
            }
        }

        int size() {
            return size;
        }

        int page(int i) {
            return i >= 0 && i < pages.length ? pages[i] : NONE;
        }

        int freePage() {
            return page(size);
        }

        void keepFreePage() {
            if (size < pages.length) {
                size++;
            }
        }

        void remove(int i) {
            if (i < 0 || i >= size) {
                return;
            }
            int freed = pages[i];
            for (int k = i; k + 1 < size; k++) {
                pages[k] = pages[k + 1];
            }
            size--;
            pages[size] = freed;
        }

        /** The first clause, from the given one on, whose head could be this call; or NONE. */
        int find(int from, int call) {
            for (int i = Math.max(from, 0); i < size; i++) {
                if (book.alike(Book.firstNode(page(i)), call)) {
                    return i;
                }
            }
            return NONE;
        }
    }

    /** Variables, goals that sleep on them, and aparts that wait; a trail tells how to go back. */
    private static final class Store {
        private static final int NODE = 0;
        private static final int ENV = 1;
        private static final int FIRST_SLEEPER = 2;
        private static final int LAST_SLEEPER = 3;

        private static final int GOAL = 0;
        private static final int BEHIND = 2;
        private static final int WAITING = 2;

        private static final int CHANGE = 0;
        private static final int WHERE = 1;
        private static final int BEFORE = 2;
        private static final int WAS_BOUND = 0;
        private static final int WAS_JOINED = 1;
        private static final int WAS_SETTLED = 2;

        private final Book book;
        private final Table variables;
        private final Table sleepers;
        private final Table aparts;
        private final Table trail;
        private int made;

        Store(Book book) {
            this.book = book;
            variables = new Table(4);
            sleepers = new Table(3);
            aparts = new Table(3);
            trail = new Table(3);
        }

        void clear() {
            variables.shrink(0);
            sleepers.shrink(0);
            aparts.shrink(0);
            trail.shrink(0);
            made = 0;
        }

        int variablesMade() {
            return made;
        }

        int variables() {
            return variables.rows();
        }

        int sleepers() {
            return sleepers.rows();
        }

        int aparts() {
            return aparts.rows();
        }

        int changes() {
            return trail.rows();
        }

        /** Makes the variables of one use of a page; answers the number of the first. */
        int makeVariables(int page) {
            int env = variables.rows();
            int many = book.variablesOf(page);
            for (int i = 0; i < many; i++) {
                variables.append(NONE, NONE, NONE, NONE);
            }
            made += many;
            return env;
        }

        void find(int node, int env, Value into) {
            into.node = node;
            into.env = env;
            into.variable = NONE;
            int rank = book.rank(node);
            // A variable is bound to a smaller number or to no variable, so this many hops are enough.
            for (int hop = variables.rows(); hop >= 0 && rank != NONE; hop--) {
                int variable = into.env + rank;
                int bound = variables.at(variable, NODE);
                if (bound == NONE) {
                    into.variable = variable;
                    return;
                }
                into.node = bound;
                into.env = variables.at(variable, ENV);
                rank = book.rank(bound);
            }
        }

        void bind(int variable, Value to) {
            variables.put(variable, NODE, to.node);
            variables.put(variable, ENV, to.env);
            trail.append(WAS_BOUND, variable, NONE, NONE);
        }

        void putToSleep(int goal, int env, int variable) {
            int sleeper = sleepers.append(goal, env, NONE, NONE);
            join(variable, sleeper, sleeper);
        }

        /** Puts the sleepers from first to last, if there are any, behind those of the variable. */
        void join(int variable, int first, int last) {
            if (first == NONE) {
                return;
            }
            int before = lastSleeper(variable);
            if (before == NONE) {
                variables.put(variable, FIRST_SLEEPER, first);
            } else {
                sleepers.put(before, BEHIND, first);
            }
            variables.put(variable, LAST_SLEEPER, last);
            trail.append(WAS_JOINED, variable, before, NONE);
        }

        int firstSleeper(int variable) {
            return variables.at(variable, FIRST_SLEEPER);
        }

        int lastSleeper(int variable) {
            return variables.at(variable, LAST_SLEEPER);
        }

        int sleeperBehind(int sleeper) {
            return sleepers.at(sleeper, BEHIND);
        }

        int sleeperGoal(int sleeper) {
            return sleepers.at(sleeper, GOAL);
        }

        int sleeperEnv(int sleeper) {
            return sleepers.at(sleeper, ENV);
        }

        int sleepersOn(int variable) {
            int many = 0;
            int sleeper = firstSleeper(variable);
            for (int i = 0; i < sleepers.rows() && sleeper != NONE; i++) {
                many++;
                sleeper = sleeperBehind(sleeper);
            }
            return many;
        }

        void letWait(int goal, int env) {
            aparts.append(goal, env, 1, NONE);
        }

        boolean isWaiting(int apart) {
            return aparts.at(apart, WAITING) == 1;
        }

        int apartGoal(int apart) {
            return aparts.at(apart, GOAL);
        }

        int apartEnv(int apart) {
            return aparts.at(apart, ENV);
        }

        void settle(int apart) {
            aparts.put(apart, WAITING, 0);
            trail.append(WAS_SETTLED, apart, NONE, NONE);
        }

        int apartsWaiting() {
            int many = 0;
            for (int i = 0; i < aparts.rows(); i++) {
                many += isWaiting(i) ? 1 : 0;
            }
            return many;
        }

        void goBack(int changes) {
            for (int i = trail.rows() - 1; i >= changes && i >= 0; i--) {
                undo(i);
            }
            trail.shrink(changes);
        }

        void forget(int variablesLeft, int sleepersLeft, int apartsLeft) {
            variables.shrink(variablesLeft);
            sleepers.shrink(sleepersLeft);
            aparts.shrink(apartsLeft);
        }

        private void undo(int entry) {
            int where = trail.at(entry, WHERE);
            int change = trail.at(entry, CHANGE);
            if (change == WAS_BOUND) {
                variables.put(where, NODE, NONE);
                return;
            }
            if (change == WAS_SETTLED) {
                aparts.put(where, WAITING, 1);
                return;
            }
            int before = trail.at(entry, BEFORE);
            variables.put(where, LAST_SLEEPER, before);
            if (before == NONE) {
                variables.put(where, FIRST_SLEEPER, NONE);
            } else {
                sleepers.put(before, BEHIND, NONE);
            }
        }
    }

    /** Makes terms same and tests aparts; it counts the steps, as most of them are its own. */
    private static final class Matcher {
        private final Book book;
        private final Store store;
        private final Table pairs;
        private final Table woken;
        private final Value first;
        private final Value second;
        private int steps;

        Matcher(Book book, Store store) {
            this.book = book;
            this.store = store;
            pairs = new Table(4);
            woken = new Table(1);
            first = new Value();
            second = new Value();
        }

        void clear() {
            steps = 0;
            pairs.shrink(0);
            woken.shrink(0);
        }

        int stepsTaken() {
            return steps;
        }

        boolean takeStep() {
            if (steps >= STEP_LIMIT) {
                return false;
            }
            steps++;
            return true;
        }

        int wokenGoals() {
            return woken.rows();
        }

        int wokenGoal(int i) {
            return woken.at(i, 0);
        }

        void pushPair(int node, int env, int other, int otherEnv) {
            pairs.append(node, env, other, otherEnv);
        }

        /** The last ones are pushed first, as the pair on top is gone through next. */
        void pushArguments(int node, int env, int other, int otherEnv) {
            for (int i = book.arity(node) - 1; i >= 0; i--) {
                pairs.append(book.argument(node, i), env, book.argument(other, i), otherEnv);
            }
        }

        /** Makes the pushed pairs same. */
        Outcome makeSame() {
            int changes = store.changes();
            woken.shrink(0);
            Outcome outcome = goThroughPairs(true);
            if (outcome == Outcome.DONE && store.changes() > changes) {
                return Outcome.TESTS;
            }
            return outcome;
        }

        Outcome testAparts() {
            for (int i = 0; i < store.aparts(); i++) {
                Outcome outcome = store.isWaiting(i) ? testApart(i) : Outcome.DONE;
                if (outcome != Outcome.DONE) {
                    return outcome;
                }
            }
            return Outcome.WOKEN;
        }

        Outcome testApart(int apart) {
            int changes = store.changes();
            int goal = store.apartGoal(apart);
            int env = store.apartEnv(apart);
            pushPair(goal, env, book.right(goal), env);
            Outcome outcome = goThroughPairs(false);
            boolean bound = store.changes() > changes;
            store.goBack(changes);
            if (outcome == Outcome.FAILED) {
                store.settle(apart);
                return Outcome.DONE;
            }
            return outcome == Outcome.DONE && !bound ? Outcome.FAILED : outcome;
        }

        private Outcome goThroughPairs(boolean stirring) {
            for (int i = 0; i <= STEP_LIMIT && pairs.rows() > 0; i++) {
                if (!takeStep()) {
                    pairs.shrink(0);
                    return Outcome.TOO_MANY_STEPS;
                }
                int top = pairs.rows() - 1;
                store.find(pairs.at(top, 0), pairs.at(top, 1), first);
                store.find(pairs.at(top, 2), pairs.at(top, 3), second);
                pairs.shrink(top);
                if (first.variable != second.variable) {
                    // NONE is below every number, so a variable is bound to what is no variable, too.
                    boolean greater = first.variable > second.variable;
                    Value bound = greater ? first : second;
                    Value kept = greater ? second : first;
                    store.bind(bound.variable, kept);
                    if (stirring && kept.variable != NONE) {
                        store.join(kept.variable, store.firstSleeper(bound.variable), store.lastSleeper(bound.variable));
                    } else if (stirring) {
                        wake(bound.variable);
                    }
                } else if (first.variable == NONE) {
                    if (!book.alike(first.node, second.node)) {
                        pairs.shrink(0);
                        return Outcome.FAILED;
                    }
                    pushArguments(first.node, first.env, second.node, second.env);
                }
            }
            return Outcome.DONE;
        }

        private void wake(int variable) {
            int sleeper = store.firstSleeper(variable);
            for (int i = 0; i < store.sleepers() && sleeper != NONE; i++) {
                woken.append(sleeper, NONE, NONE, NONE);
                sleeper = store.sleeperBehind(sleeper);
            }
        }
    }

    /** Does the goals to do, one after another, and goes back to the newest choice on failing. */
    private static final class Search {
        // A turn of the loop takes a step or follows one, or takes a clause of a choice; a choice
        // needs a step and has at most 11 clauses.
        private static final int TURN_LIMIT = 1_000_000;

        private static final int GOAL = 0;
        private static final int ENV = 1;
        private static final int LEVEL = 2;
        private static final int BEHIND = 3;

        private static final int CALL = 0;
        private static final int CLAUSE = 2;
        private static final int TO_DO = 3;
        private static final int CHANGES = 4;
        private static final int VARIABLES = 5;
        private static final int SLEEPERS = 6;
        private static final int APARTS = 7;
        private static final int CELLS = 8;
        private static final int CHOICE_COLUMNS = 9;

        private final Book book;
        private final Clauses clauses;
        private final Store store;
        private final Matcher matcher;
        private final Table cells;
        private final Table choices;
        private final Value left;
        private final Value right;
        private int toDo;

        Search(Book book, Clauses clauses, Store store, Matcher matcher) {
            this.book = book;
            this.clauses = clauses;
            this.store = store;
            this.matcher = matcher;
            cells = new Table(4);
            choices = new Table(CHOICE_COLUMNS);
            left = new Value();
            right = new Value();
            toDo = NONE;
        }

        int choicesLeft() {
            return choices.rows();
        }

        void begin() {
            store.clear();
            matcher.clear();
            cells.shrink(0);
            choices.shrink(0);
            int env = store.makeVariables(QUESTION_PAGE);
            toDo = cells.append(book.firstGoal(QUESTION_PAGE), env, 0, NONE);
        }

        Outcome seek(Outcome start) {
            Outcome outcome = start;
            for (int turn = 0; turn < TURN_LIMIT; turn++) {
                if (outcome == Outcome.DONE) {
                    outcome = toDo == NONE ? Outcome.ANSWER : doGoal();
                } else if (outcome == Outcome.PAIRS) {
                    outcome = matcher.makeSame();
                } else if (outcome == Outcome.TESTS) {
                    outcome = matcher.testAparts();
                } else if (outcome == Outcome.NEW_APART) {
                    outcome = matcher.testApart(store.aparts() - 1);
                } else if (outcome == Outcome.WOKEN) {
                    outcome = putWokenInFront();
                } else if (outcome == Outcome.FAILED) {
                    outcome = retry();
                } else {
                    return outcome;
                }
            }
            return Outcome.TOO_MANY_STEPS;
        }

        private Outcome doGoal() {
            if (!matcher.takeStep()) {
                return Outcome.TOO_MANY_STEPS;
            }
            int goal = cells.at(toDo, GOAL);
            int env = cells.at(toDo, ENV);
            int level = cells.at(toDo, LEVEL);
            int behind = cells.at(toDo, BEHIND);
            int follower = book.follower(goal);
            toDo = follower == NONE ? behind : cells.append(follower, env, level, behind);
            switch (book.kind(goal)) {
                case Book.CUT:
                    choices.shrink(level);
                    return Outcome.DONE;
                case Book.SAME:
                    matcher.pushPair(goal, env, book.right(goal), env);
                    return Outcome.PAIRS;
                case Book.APART:
                    store.letWait(goal, env);
                    return Outcome.NEW_APART;
                case Book.LESS:
                    return doLess(goal, env);
                case Book.SLEEP:
                    return doSleep(goal, env);
                default:
                    return doCall(goal, env);
            }
        }

        private Outcome doLess(int goal, int env) {
            store.find(goal, env, left);
            store.find(book.right(goal), env, right);
            int a = book.sign(left.node);
            int b = book.sign(right.node);
            if (!Book.isDigit(a) || !Book.isDigit(b)) {
                return Outcome.NO_DIGITS;
            }
            return a < b ? Outcome.DONE : Outcome.FAILED;
        }

        private Outcome doSleep(int goal, int env) {
            store.find(goal, env, left);
            if (left.variable == NONE) {
                putInFront(book.right(goal), env);
            } else {
                store.putToSleep(book.right(goal), env, left.variable);
            }
            return Outcome.DONE;
        }

        private Outcome doCall(int call, int env) {
            int clause = clauses.find(0, call);
            if (clause == NONE) {
                return Outcome.FAILED;
            }
            int level = choices.rows();
            int later = clauses.find(clause + 1, call);
            if (later != NONE) {
                leaveChoice(call, env, later);
            }
            take(clause, call, env, level);
            return Outcome.PAIRS;
        }

        private void leaveChoice(int call, int env, int clause) {
            int choice = choices.append(call, env, clause, toDo);
            choices.put(choice, CHANGES, store.changes());
            choices.put(choice, VARIABLES, store.variables());
            choices.put(choice, SLEEPERS, store.sleepers());
            choices.put(choice, APARTS, store.aparts());
            choices.put(choice, CELLS, cells.rows());
        }

        private Outcome retry() {
            int choice = choices.rows() - 1;
            if (choice < 0) {
                return Outcome.NO_ANSWER;
            }
            store.goBack(choices.at(choice, CHANGES));
            store.forget(choices.at(choice, VARIABLES), choices.at(choice, SLEEPERS), choices.at(choice, APARTS));
            cells.shrink(choices.at(choice, CELLS));
            toDo = choices.at(choice, TO_DO);
            int call = choices.at(choice, CALL);
            int env = choices.at(choice, ENV);
            int clause = choices.at(choice, CLAUSE);
            int later = clauses.find(clause + 1, call);
            if (later == NONE) {
                choices.shrink(choice);
            } else {
                choices.put(choice, CLAUSE, later);
            }
            take(clause, call, env, choice);
            return Outcome.PAIRS;
        }

        /** The body is put in front before the head is matched: if that fails, all goes back anyway. */
        private void take(int clause, int call, int callEnv, int level) {
            int page = clauses.page(clause);
            int env = store.makeVariables(page);
            int body = book.firstGoal(page);
            if (body != NONE) {
                toDo = cells.append(body, env, level, toDo);
            }
            matcher.pushArguments(Book.firstNode(page), env, call, callEnv);
        }

        private Outcome putWokenInFront() {
            for (int i = matcher.wokenGoals() - 1; i >= 0; i--) {
                int sleeper = matcher.wokenGoal(i);
                putInFront(store.sleeperGoal(sleeper), store.sleeperEnv(sleeper));
            }
            return Outcome.DONE;
        }

        /** Only calls come in this way, so no cut will ask for the level. */
        private void putInFront(int call, int env) {
            toDo = cells.append(call, env, 0, toDo);
        }
    }

    /** Writes what a term stands for. */
    private static final class Writer {
        private static final int SIGN = 0;
        private static final int NODE = 1;
        private static final int ENV = 2;

        private final Book book;
        private final Store store;
        private final char[] written;
        private final Table pending;
        private final Value value;

        Writer(Book book, Store store) {
            this.book = book;
            this.store = store;
            written = new char[WRITTEN_LIMIT];
            pending = new Table(3);
            value = new Value();
        }

        int characterAt(int i) {
            return i >= 0 && i < written.length ? written[i] : 0;
        }

        /** Writes the value of a node of the question; answers how many characters it has. */
        int write(int node) {
            pending.shrink(0);
            pushTerm(node, 0);
            int length = 0;
            while (length < written.length && pending.rows() > 0) {
                written[length] = (char) writeTop();
                length++;
            }
            return length;
        }

        /** Each thing pending has one character of its own; its parts become pending in its place. */
        private int writeTop() {
            int top = pending.rows() - 1;
            int sign = pending.at(top, SIGN);
            int node = pending.at(top, NODE);
            int env = pending.at(top, ENV);
            pending.shrink(top);
            if (node == NONE) {
                return sign;
            }
            store.find(node, env, value);
            if (value.variable != NONE) {
                return '_';
            }
            pushArguments(value.node, value.env);
            return book.sign(value.node);
        }

        private void pushArguments(int node, int env) {
            int arity = book.arity(node);
            if (arity > 0) {
                pushSign(')');
            }
            for (int i = arity - 1; i >= 0; i--) {
                pushTerm(book.argument(node, i), env);
                pushSign(i == 0 ? '(' : ',');
            }
        }

        private void pushTerm(int node, int env) {
            pending.append(0, node, env, NONE);
        }

        private void pushSign(int sign) {
            pending.append(sign, NONE, NONE, NONE);
        }
    }
}
