import java.util.ArrayDeque;
import java.util.ArrayList;
import java.util.Deque;
import java.util.HashMap;
import java.util.List;
import java.util.Map;
import java.util.NoSuchElementException;
import java.util.TreeMap;

/**
 * The document once more, written without regard to room or speed and in another way than GoalDesk:
 * terms are copied for each use, a choice keeps a copy of everything, and a text is checked
 * character by character before it is taken apart. Random runs compare the two.
 */
final class PlainDesk {
    private static final class Term {
        final char sign;
        final int variable;
        final List<Term> arguments;

        Term(char sign, int variable, List<Term> arguments) {
            this.sign = sign;
            this.variable = variable;
            this.arguments = arguments;
        }

        boolean isVariable() {
            return variable >= 0;
        }
    }

    /** A goal as text, with the numbers of its variables and the choices that a cut leaves. */
    private static final class Goal {
        final String text;
        final Map<Character, Integer> names;
        final int level;

        Goal(String text, Map<Character, Integer> names, int level) {
            this.text = text;
            this.names = names;
            this.level = level;
        }
    }

    private static final class Apart {
        final Term left;
        final Term right;

        Apart(Term left, Term right) {
            this.left = left;
            this.right = right;
        }
    }

    private static final class State {
        Map<Integer, Term> bound = new HashMap<>();
        Map<Integer, List<Goal>> asleep = new HashMap<>();
        List<Apart> aparts = new ArrayList<>();
        List<Goal> toDo = new ArrayList<>();

        State copy() {
            State other = new State();
            other.bound.putAll(bound);
            for (Map.Entry<Integer, List<Goal>> entry : asleep.entrySet()) {
                other.asleep.put(entry.getKey(), new ArrayList<>(entry.getValue()));
            }
            other.aparts.addAll(aparts);
            other.toDo.addAll(toDo);
            return other;
        }
    }

    private static final class Choice {
        final State state;
        final Goal call;
        final List<String> clauses;

        Choice(State state, Goal call, List<String> clauses) {
            this.state = state;
            this.call = call;
            this.clauses = clauses;
        }
    }

    private final List<String> clauses = new ArrayList<>();
    private final List<Choice> choices = new ArrayList<>();
    private String text = "";
    private int place = -1;
    private boolean asked;
    private int answers;
    private int steps;
    private int made;
    private State state = new State();
    private Map<Character, Integer> questionNames = new TreeMap<>();
    private List<Goal> woken = new ArrayList<>();
    private boolean somethingBound;

    int type(long eight) {
        StringBuilder more = new StringBuilder();
        for (int i = 0; i < 8; i++) {
            int code = (int) (eight >> 8 * (7 - i) & 0xFF);
            if (code == 0) {
                continue;
            }
            if (code <= 32 || code >= 127) {
                throw new IllegalArgumentException();
            }
            more.append((char) code);
        }
        if ((text + more).length() > 48) {
            throw new IllegalStateException();
        }
        text += more;
        return text.length();
    }

    int add() {
        String read = text;
        text = "";
        if (clauses.size() == 12) {
            throw new IllegalStateException();
        }
        check(read, true);
        clauses.add(read);
        asked = false;
        return clauses.size();
    }

    void drop(int i) {
        if (i < 0 || i >= clauses.size()) {
            throw new IllegalArgumentException();
        }
        clauses.remove(i);
        asked = false;
    }

    int ask() {
        String read = text;
        text = "";
        asked = false;
        check(read, false);
        choices.clear();
        state = new State();
        steps = 0;
        made = 0;
        answers = 0;
        questionNames = freshNames(read);
        for (String goal : split(read)) {
            state.toDo.add(new Goal(goal, questionNames, 0));
        }
        return found(run());
    }

    int next() {
        if (!asked) {
            throw new NoSuchElementException();
        }
        asked = false;
        return found(fail() && run());
    }

    private int found(boolean answer) {
        if (!answer) {
            throw new NoSuchElementException();
        }
        asked = true;
        answers++;
        return steps;
    }

    int letter(int v, int i) {
        if (v < 0 || v > 25) {
            throw new IllegalArgumentException();
        }
        Integer variable = asked ? questionNames.get((char) ('A' + v)) : null;
        if (variable == null) {
            throw new NoSuchElementException();
        }
        StringBuilder out = new StringBuilder();
        write(new Term('?', variable, List.of()), out);
        String written = out.length() > 80 ? out.substring(0, 80) : out.toString();
        if (i == -1) {
            return written.length();
        }
        if (i < 0 || i >= written.length()) {
            throw new NoSuchElementException();
        }
        return written.charAt(i);
    }

    int sleeping(int v) {
        if (v < 0 || v > 25) {
            throw new IllegalArgumentException();
        }
        Integer variable = asked ? questionNames.get((char) ('A' + v)) : null;
        if (variable == null) {
            return -1;
        }
        Term value = value(new Term('?', variable, List.of()));
        return value.isVariable() ? state.asleep.getOrDefault(value.variable, List.of()).size() : 0;
    }

    int count(int what) {
        int[] always = {place, text.length(), clauses.size()};
        int[] ifAsked = {answers, choices.size(), state.aparts.size(), made};
        if (what < 0 || what > 6) {
            return -1;
        }
        return what < 3 ? always[what] : asked ? ifAsked[what - 3] : 0;
    }

    // Reading

    private void check(String read, boolean clause) {
        int wrong = firstWrong(read, clause);
        if (wrong >= 0) {
            place = wrong;
            throw new IllegalArgumentException();
        }
    }

    /** Goes through the text with the counts of arguments so far of the brackets that are open. */
    static int firstWrong(String read, boolean clause) {
        Deque<Integer> open = new ArrayDeque<>();
        char side = clause ? 'h' : 'l'; // head, left, right, sleeper
        char mode = 's'; // start of a term, letter just read, after a term, cut
        boolean topIsCall = false;
        for (int i = 0; i < read.length(); i++) {
            char c = read.charAt(i);
            boolean small = c >= 'a' && c <= 'z';
            boolean top = open.isEmpty();
            if (mode == 's') {
                boolean plain = c >= 'A' && c <= 'Z' || c >= '0' && c <= '9';
                if (top && side == 'l' && c == '!') {
                    mode = 'c';
                } else if (small || plain && !(top && (side == 'h' || side == 'z'))) {
                    mode = small ? 'j' : 'a';
                    topIsCall = top ? small : topIsCall;
                } else {
                    return i;
                }
            } else if (mode == 'j' && c == '(' && open.size() < 5) {
                open.push(1);
                mode = 's';
            } else if (mode == 'c') {
                if (c != ',') {
                    return i;
                }
                mode = 's';
            } else if (!top) {
                if (c == ')') {
                    open.pop();
                    mode = 'a';
                } else if (c == ',' && open.peek() < 3) {
                    open.push(open.pop() + 1);
                    mode = 's';
                } else {
                    return i;
                }
            } else {
                if (side == 'h' && c == ':') {
                    side = 'l';
                } else if (side == 'l' && (c == '=' || c == '~' || c == '<')) {
                    side = 'r';
                } else if (side == 'l' && c == '?') {
                    side = 'z';
                } else if (c == ',' && (side == 'l' && topIsCall || side == 'r' || side == 'z')) {
                    side = 'l';
                } else {
                    return i;
                }
                mode = 's';
            }
        }
        boolean ended = mode == 'c' || mode != 's' && open.isEmpty() && (side != 'l' || topIsCall);
        return ended ? -1 : read.length();
    }

    /** Cuts at the commas that stand in no bracket. */
    private static List<String> split(String read) {
        List<String> parts = new ArrayList<>();
        int depth = 0;
        int from = 0;
        for (int i = 0; i < read.length(); i++) {
            char c = read.charAt(i);
            depth += c == '(' ? 1 : c == ')' ? -1 : 0;
            if (c == ',' && depth == 0) {
                parts.add(read.substring(from, i));
                from = i + 1;
            }
        }
        parts.add(read.substring(from));
        return parts;
    }

    private Map<Character, Integer> freshNames(String read) {
        Map<Character, Integer> names = new TreeMap<>();
        for (char c = 'A'; c <= 'Z'; c++) {
            if (read.indexOf(c) >= 0) {
                names.put(c, made++);
            }
        }
        return names;
    }

    private static Term term(String read, Map<Character, Integer> names) {
        char sign = read.charAt(0);
        if (names.containsKey(sign)) {
            return new Term(sign, names.get(sign), List.of());
        }
        List<Term> arguments = new ArrayList<>();
        if (read.length() > 1) {
            for (String part : split(read.substring(2, read.length() - 1))) {
                arguments.add(term(part, names));
            }
        }
        return new Term(sign, -1, arguments);
    }

    // Terms

    private Term value(Term term) {
        Term value = term;
        while (value.isVariable() && state.bound.containsKey(value.variable)) {
            value = state.bound.get(value.variable);
        }
        return value;
    }

    private void write(Term term, StringBuilder out) {
        Term value = value(term);
        if (out.length() >= 80) {
            return;
        }
        out.append(value.isVariable() ? '_' : value.sign);
        for (int i = 0; i < value.arguments.size(); i++) {
            out.append(i == 0 ? '(' : ',');
            write(value.arguments.get(i), out);
        }
        out.append(value.arguments.isEmpty() ? "" : ")");
    }

    private void step() {
        if (steps == 500) {
            throw new IllegalStateException();
        }
        steps++;
    }

    private boolean same(Term a, Term b, boolean trying) {
        step();
        Term x = value(a);
        Term y = value(b);
        if (x.isVariable() && y.isVariable()) {
            if (x.variable != y.variable) {
                Term young = x.variable > y.variable ? x : y;
                Term old = x.variable > y.variable ? y : x;
                state.bound.put(young.variable, old);
                somethingBound = true;
                List<Goal> moving = state.asleep.remove(young.variable);
                if (moving != null && !trying) {
                    state.asleep.computeIfAbsent(old.variable, k -> new ArrayList<>()).addAll(moving);
                }
            }
            return true;
        }
        if (x.isVariable() || y.isVariable()) {
            Term variable = x.isVariable() ? x : y;
            state.bound.put(variable.variable, x.isVariable() ? y : x);
            somethingBound = true;
            List<Goal> waking = state.asleep.remove(variable.variable);
            if (waking != null && !trying) {
                woken.addAll(waking);
            }
            return true;
        }
        return x.sign == y.sign && x.arguments.size() == y.arguments.size() && sameAll(x.arguments, y.arguments, trying);
    }

    private boolean sameAll(List<Term> a, List<Term> b, boolean trying) {
        for (int i = 0; i < a.size(); i++) {
            if (!same(a.get(i), b.get(i), trying)) {
                return false;
            }
        }
        return true;
    }

    /** 1: it's settled, 0: it waits, -1: it fails. */
    private int test(Apart apart) {
        State before = state;
        state = before.copy();
        somethingBound = false;
        boolean alike = same(apart.left, apart.right, true);
        state = before;
        return !alike ? 1 : somethingBound ? 0 : -1;
    }

    /** What follows when terms were made same: the tests, then those that woke. */
    private boolean afterBinding() {
        if (somethingBound) {
            List<Apart> left = new ArrayList<>();
            for (Apart apart : state.aparts) {
                int tested = test(apart);
                if (tested < 0) {
                    return false;
                }
                if (tested == 0) {
                    left.add(apart);
                }
            }
            state.aparts = left;
        }
        state.toDo.addAll(0, woken);
        return true;
    }

    private void beginSame() {
        somethingBound = false;
        woken = new ArrayList<>();
    }

    // Goals

    private boolean run() {
        while (!state.toDo.isEmpty()) {
            step();
            if (!doGoal(state.toDo.remove(0)) && !fail()) {
                return false;
            }
        }
        return true;
    }

    private boolean fail() {
        while (!choices.isEmpty()) {
            Choice choice = choices.remove(choices.size() - 1);
            state = choice.state;
            if (takeOneOf(choice.clauses, choice.call)) {
                return true;
            }
        }
        return false;
    }

    private boolean takeOneOf(List<String> those, Goal call) {
        int level = choices.size();
        if (those.size() > 1) {
            choices.add(new Choice(state.copy(), call, those.subList(1, those.size())));
        }
        String clause = those.get(0);
        int colon = clause.indexOf(':');
        Map<Character, Integer> names = freshNames(clause);
        Term head = term(colon < 0 ? clause : clause.substring(0, colon), names);
        beginSame();
        if (!sameAll(head.arguments, term(call.text, call.names).arguments, false)) {
            return false;
        }
        List<Goal> body = new ArrayList<>();
        if (colon >= 0) {
            for (String goal : split(clause.substring(colon + 1))) {
                body.add(new Goal(goal, names, level));
            }
        }
        state.toDo.addAll(0, body);
        return afterBinding();
    }

    private boolean doGoal(Goal goal) {
        if (goal.text.equals("!")) {
            while (choices.size() > goal.level) {
                choices.remove(choices.size() - 1);
            }
            return true;
        }
        for (char kind : new char[] {'=', '~', '<', '?'}) {
            int at = goal.text.indexOf(kind);
            if (at >= 0) {
                String right = goal.text.substring(at + 1);
                return doPair(kind, term(goal.text.substring(0, at), goal.names), right, goal);
            }
        }
        Term call = term(goal.text, goal.names);
        List<String> fitting = new ArrayList<>();
        for (String clause : clauses) {
            Term head = term(clause.split(":")[0], new TreeMap<>());
            if (head.sign == call.sign && head.arguments.size() == call.arguments.size()) {
                fitting.add(clause);
            }
        }
        return !fitting.isEmpty() && takeOneOf(fitting, goal);
    }

    private boolean doPair(char kind, Term left, String rightText, Goal goal) {
        Term right = term(rightText, goal.names);
        if (kind == '=') {
            beginSame();
            return same(left, right, false) && afterBinding();
        }
        if (kind == '~') {
            Apart apart = new Apart(left, right);
            int tested = test(apart);
            if (tested == 0) {
                state.aparts.add(apart);
            }
            return tested >= 0;
        }
        if (kind == '<') {
            char a = value(left).isVariable() ? '_' : value(left).sign;
            char b = value(right).isVariable() ? '_' : value(right).sign;
            if (!Character.isDigit(a) || !Character.isDigit(b)) {
                throw new UnsupportedOperationException();
            }
            return a < b;
        }
        Goal call = new Goal(rightText, goal.names, 0);
        Term value = value(left);
        if (value.isVariable()) {
            state.asleep.computeIfAbsent(value.variable, k -> new ArrayList<>()).add(call);
        } else {
            state.toDo.add(0, call);
        }
        return true;
    }
}
