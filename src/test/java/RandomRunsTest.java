import java.util.ArrayList;
import java.util.List;
import java.util.Random;

/** Random runs of calls, the same ones each time, on GoalDesk and on PlainDesk: all that can be seen is compared. */
public final class RandomRunsTest {
    private static final int RUNS = 2000;
    private static final int CALLS = 60;

    private static final String[] PROGRAMS = {
        "a(n,L,L) a(c(H,T),L,c(H,R)):a(T,L,R) m(X,c(X,Y)) m(X,c(Y,Z)):m(X,Z)",
        "p(1) p(2) p(3) q(X):p(X),! q(X):X=9 r(X,Y):p(X),p(Y),X<Y r(X,Y):X~Y,Y?p(Y),X?p(X)",
        "e(1,2) e(2,3) e(3,1) t(X,Y):e(X,Y) t(X,Y):e(X,Z),t(Z,Y) n(X,Y):X~Y,p(X),p(Y) p(1) p(2) p(f(X))",
        "l:l r r:p,r p p g(X):h(X,X) h(1,X) h(X,2) h(f(X),X)",
        "p(X):X?q(X),X?r(X) q(1) q(2) r(2) r(3) s(X):X=1 s(X):X=2,! s(3) v(X,Y):Y?s(X),X?q(X),X=Y",
    };
    private static final String[] QUESTIONS = {
        "a(X,Y,c(1,c(2,n)))", "a(X,X,Y)", "m(X,c(1,c(2,c(1,n)))),X~1", "X~1,m(X,c(1,c(2,c(1,n))))",
        "r(X,Y)", "r(X,Y),r(Y,Z)", "q(X),r(X,Y)", "X?p(X),Y?q(Y),X=Y,Y=2", "t(1,X)", "t(X,X),X~2", "n(X,Y)",
        "n(X,Y),X=f(Y)", "p(X),n(X,f(Z))", "r,r", "g(X)", "X=f(X),Y=f(Y),X=Y", "X=f(X,Y),Y~X", "p(X),s(X)",
        "s(X),p(X)", "v(X,Y),s(Y)", "p(A),p(B),A=B,s(B)", "f(X,Y)~f(Y,X),p(X),p(Y)", "B?p(B),A?q(A),A=B,s(A)",
        "X~f(Y),p(X),!", "p(X),!,q(Y)", "h(X,Y),X~Y", "A~B,B~C,p(A),p(B),p(C)", "l",
        "Z?p(Z),Y?q(Y),f(Y,X)=f(Z,Y),s(X)", "f(A,B)=f(C,D),A?p(A),C?s(C),D?q(D),B=A,s(D)",
    };

    private final Random random;
    private final GoalDesk desk = new GoalDesk();
    private final PlainDesk plain = new PlainDesk();
    private final List<String> log = new ArrayList<>();

    private RandomRunsTest(long seed) {
        random = new Random(seed);
    }

    private interface Call {
        int make();
    }

    public static void main(String[] args) {
        int runs = args.length > 0 ? Integer.parseInt(args[0]) : RUNS;
        int first = args.length > 1 ? Integer.parseInt(args[1]) : 1;
        int answers = 0;
        for (int seed = first; seed < first + runs; seed++) {
            RandomRunsTest run = new RandomRunsTest(seed);
            if (!run.goesWell()) {
                System.out.println("seed " + seed + ":");
                run.log.forEach(System.out::println);
                System.exit(1);
            }
            for (String line : run.log) {
                answers += line.matches("(ask|next)\\(\\) answers \\d+") ? 1 : 0;
            }
        }
        System.out.println(runs + " random runs went alike, with " + answers + " answers to questions");
        if (answers < runs) {
            System.out.println("too few answers to tell anything");
            System.exit(1);
        }
    }

    private boolean goesWell() {
        boolean well = true;
        if (random.nextInt(4) > 0) {
            for (String clause : PROGRAMS[random.nextInt(PROGRAMS.length)].split(" ")) {
                well = well && typed(clause) && compared("add()", desk::add, plain::add);
            }
        }
        for (int i = 0; i < CALLS && well; i++) {
            well = oneCall() && looksAlike();
        }
        return well;
    }

    private boolean oneCall() {
        int kind = random.nextInt(20);
        if (kind < 3) {
            return typed(clause()) && compared("add()", desk::add, plain::add);
        }
        if (kind < 4) {
            int i = random.nextInt(14) - 1;
            return compared("drop(" + i + ")", () -> { desk.drop(i); return 0; }, () -> { plain.drop(i); return 0; });
        }
        if (kind < 11) {
            String question = random.nextInt(3) == 0 ? QUESTIONS[random.nextInt(QUESTIONS.length)] : goals(48);
            return typed(question) && compared("ask()", desk::ask, plain::ask);
        }
        if (kind < 18) {
            return compared("next()", desk::next, plain::next);
        }
        if (kind < 19) {
            return typedOnce(random.nextLong());
        }
        StringBuilder worse = new StringBuilder(random.nextBoolean() ? clause() : goals(48));
        String signs = "aXb1(),:=~<?!;#";
        for (int i = random.nextInt(3); i >= 0; i--) {
            int at = random.nextInt(worse.length());
            worse.setCharAt(at, signs.charAt(random.nextInt(signs.length())));
        }
        if (random.nextInt(3) == 0) {
            worse.setLength(random.nextInt(worse.length()));
        }
        boolean asking = random.nextBoolean();
        return typed(worse.toString()) && (asking ? compared("ask()", desk::ask, plain::ask) : compared("add()", desk::add, plain::add));
    }

    private boolean typed(String text) {
        boolean well = true;
        for (int i = 0; i < text.length() && well; i += 8) {
            long eight = 0;
            for (int k = i; k < Math.min(i + 8, text.length()); k++) {
                eight = eight << 8 | text.charAt(k);
            }
            well = typedOnce(eight);
        }
        log.add("  typed " + text);
        return well;
    }

    private boolean typedOnce(long eight) {
        return compared("type(" + eight + ")", () -> desk.type(eight), () -> plain.type(eight));
    }

    private boolean compared(String name, Call mine, Call other) {
        String got = answerOf(mine);
        String due = answerOf(other);
        log.add(name + " answers " + got);
        if (got.equals(due)) {
            return true;
        }
        log.add("  due is " + due);
        return false;
    }

    private static String answerOf(Call call) {
        try {
            return Integer.toString(call.make());
        } catch (RuntimeException e) {
            return "throws." + e.getClass().getSimpleName();
        }
    }

    private boolean looksAlike() {
        for (int what = -1; what <= 7; what++) {
            int w = what;
            if (!seenAlike("count(" + w + ")", () -> desk.count(w), () -> plain.count(w))) {
                return false;
            }
        }
        for (int variable = -1; variable <= 26; variable++) {
            int v = variable;
            int far = answerOf(() -> plain.sleeping(v)).equals("-1") ? -1 : 81;
            boolean well = seenAlike("sleeping(" + v + ")", () -> desk.sleeping(v), () -> plain.sleeping(v));
            for (int place = -1; place <= far && well; place++) {
                int i = place;
                String due = answerOf(() -> plain.letter(v, i));
                well = due.equals(answerOf(() -> desk.letter(v, i)))
                    || compared("letter(" + v + ", " + i + ")", () -> desk.letter(v, i), () -> plain.letter(v, i));
                far = due.startsWith("throws") ? -1 : far;
            }
            if (!well) {
                return false;
            }
        }
        return true;
    }

    private boolean seenAlike(String name, Call mine, Call other) {
        return answerOf(mine).equals(answerOf(other)) || compared(name, mine, other);
    }

    // Texts that are mostly right

    private String clause() {
        String head = call(2);
        String text = random.nextInt(3) == 0 ? head : head + ":" + goals(47 - head.length());
        return text.length() > 48 ? head : text;
    }

    private String goals(int most) {
        StringBuilder text = new StringBuilder(goal());
        int more = random.nextInt(7);
        for (int i = 0; i < more; i++) {
            String goal = goal();
            if (text.length() + 1 + goal.length() <= most) {
                text.append(',').append(goal);
            }
        }
        return text.toString();
    }

    private String goal() {
        switch (random.nextInt(12)) {
            case 0:
                return "!";
            case 1:
            case 2:
                return term(3) + "=" + term(2);
            case 3:
            case 4:
                return term(2) + "~" + term(2);
            case 5:
                return random.nextInt(4) == 0 ? term(1) + "<" + term(1) : random.nextInt(3) + "<" + random.nextInt(4);
            case 6:
            case 7:
                return (random.nextInt(5) == 0 ? term(2) : variable()) + "?" + call(2);
            default:
                return call(2);
        }
    }

    private String call(int depth) {
        String name = String.valueOf("pqrs".charAt(random.nextInt(4)));
        int arguments = "pq".contains(name) ? 1 : random.nextInt(3);
        return name + arguments(arguments, depth);
    }

    private String arguments(int many, int depth) {
        StringBuilder text = new StringBuilder();
        for (int i = 0; i < many; i++) {
            text.append(i == 0 ? "(" : ",").append(term(depth - 1));
        }
        return many == 0 ? "" : text + ")";
    }

    private String variable() {
        return String.valueOf("ABXYZ".charAt(random.nextInt(5)));
    }

    private String term(int depth) {
        int kind = random.nextInt(8);
        if (kind < 4) {
            return variable();
        }
        if (kind < 6 || depth <= 0) {
            return String.valueOf("123ab".charAt(random.nextInt(5)));
        }
        return "fg".charAt(random.nextInt(2)) + arguments(1 + random.nextInt(kind == 7 ? 3 : 2), depth);
    }
}
