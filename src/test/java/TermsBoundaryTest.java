/** A test for each sentence of the section "Terms" that names a boundary case. */
public final class TermsBoundaryTest extends Sentences {
    private static final String SIX_DEEP = "a(b(c(d(e(f)))))";
    private static final String SEVEN_DEEP = "a(b(c(d(e(f(1))))))";

    /** u throws and v fails, so it's seen which of the two is done first. */
    private static final String[] MARKS = {"clause u:1<a -> 1", "clause v:2<1 -> 2"};
    private static final String[] FACTS = {"clause p(1) -> 1", "clause p(2) -> 2"};
    /** c takes 1 step, b 11, a 111 and e 489. */
    private static final String[] COSTS = {"clause a:b,b,b,b,b,b,b,b,b,b -> 1", "clause b:c,c,c,c,c,c,c,c,c,c -> 2",
        "clause c -> 3", "clause d -> 4", "clause d -> 5", "clause e:a,a,a,a,b,b,b,b -> 6"};

    public static void main(String[] args) {
        new TermsBoundaryTest().all();
    }

    private void all() {
        section("Terms");
        signs();
        arguments();
        depth();
        calls();
        goals();
        clausesAndQuestions();
        length();
        thePlace();
        numbers();
        twoVariables();
        aVariableAndATerm();
        twoLetters();
        afterBinding();
        testing();
        callsToDo();
        apartsToDo();
        lessToDo();
        sleepToDo();
        cutToDo();
        failing();
        theStepLimit();
        whatEndsAsking();
        whatIsBad();
        end();
    }

    private static String[] marked(String... rows) {
        return after(MARKS, rows);
    }

    private static String[] facts(String... rows) {
        return after(FACTS, rows);
    }

    private static String[] costs(String... rows) {
        return after(COSTS, rows);
    }

    // Reading

    private void signs() {
        of("a VARIABLE A .. Z",
            goodQuestion("A=Z", "2"), badQuestion("@=a", 0), badQuestion("[=a", 0), badQuestion("f(@)=a", 2), badQuestion("f([)=a", 2),
            badQuestion("_=a", 0), badQuestion("A(1)=a", 1), badQuestion("Z()=a", 1),
            run("question A=a,Z=z -> 4", "text A -> a", "text Z -> z"));
        of("a digit",
            goodQuestion("0=0", "2"), goodQuestion("9=9", "2"), badQuestion("/=a", 0), badQuestion(":=a", 0), badQuestion("f(/)=a", 2),
            badQuestion("f(:)=a", 2), badQuestion("10=a", 1), badQuestion("1(1)=a", 1), badQuestion("9()=a", 1));
        of("a letter a .. z",
            goodQuestion("a=a", "2"), goodQuestion("z=z", "2"), badQuestion("`=a", 0), badQuestion("{=a", 0), badQuestion("f(`)=a", 2),
            badQuestion("f({)=a", 2), goodClause("a"), goodClause("z"), badClause("`", 0), badClause("{", 0), badQuestion("ab=a", 1));
    }

    private void arguments() {
        of("alone or with 1 to 3 ARGUMENTS, TERMS, in ( ) with , between",
            badQuestion("X=a()", 4), run("question X=a -> 2", "text X -> a"),
            run("question X=a(1) -> 2", "text X -> a(1)"),
            run("question X=a(1,2,3) -> 2", "text X -> a(1,2,3)"),
            badQuestion("X=a(1,2,3,4)", 9), badQuestion("X=a(1,2,3,", 9), badQuestion("X=a(b(1,2,3,4))", 11), badQuestion("X=a(1,)", 6),
            badQuestion("X=a(,1)", 4), badQuestion("X=a(1;2)", 5), badQuestion("X=a(1", 5), badQuestion("X=a(1))", 6), badClause("a()", 2),
            goodClause("a(1,2,3)"), badClause("a(1,2,3,4)", 7), badQuestion("X=a(!)", 4), badQuestion("X=a(1=1)", 5));
        of("Digits and letters alone are letters without ARGUMENTS here.",
            goodQuestion("f=f(1)", NO_SUCH), goodQuestion("f=f", "2"), goodQuestion("1=1", "2"), goodQuestion("1=2", NO_SUCH),
            goodQuestion("1=a", NO_SUCH),
            run("question X=7 -> 2", "letter X -1 -> 1", "text X -> 7"),
            run("clause p(1) -> 1", "question p -> " + NO_SUCH, "clause p -> 2", "question p -> 1", "count 4 -> 0"));
    }

    private void depth() {
        of("TERMS stand at most 6 deep in one another (the outermost at depth 1).",
            goodClause(SIX_DEEP), badClause(SEVEN_DEEP, 11), goodClause("z:" + SIX_DEEP), badClause("z:" + SEVEN_DEEP, 13),
            goodQuestion(SIX_DEEP, NO_SUCH), badQuestion(SEVEN_DEEP, 11), goodQuestion(SIX_DEEP + "=X", "2"),
            badQuestion(SEVEN_DEEP + "=X", 11), goodQuestion("X=" + SIX_DEEP, "2"), badQuestion("X=" + SEVEN_DEEP, 13),
            goodQuestion("X~" + SIX_DEEP, "2"), badQuestion("X~" + SEVEN_DEEP, 13), goodQuestion("1<" + SIX_DEEP, UNSUPPORTED),
            badQuestion("1<" + SEVEN_DEEP, 13), goodQuestion("X?" + SIX_DEEP, "1"), badQuestion("X?" + SEVEN_DEEP, 13),
            goodQuestion(SIX_DEEP + "?z", NO_SUCH), badQuestion(SEVEN_DEEP + "?z", 11));
        of("(the outermost at depth 1)",
            goodQuestion("X=a(b(c(d(e(f)))),b(c(d(e(f)))))", "2"), goodQuestion("X=a(b(c(d(e(Y)))))", "2"),
            goodQuestion("X=a(b(c(d(e(7)))))", "2"), badQuestion("X=a(b(c(d(e(f)))),b(c(d(e(f(", 27),
            badQuestion("X=a(1,b(1,c(1,d(1,e(1,f(1))))))", 23), badQuestion("X=a(b(c(d(e(1,f(1))))))", 15),
            goodQuestion("X=" + SIX_DEEP + ",Y=" + SIX_DEEP, "4"),
            run("question X=a(b(c(d(e(Y))))),Y=" + SIX_DEEP + " -> 4", "text X -> a(b(c(d(e(" + SIX_DEEP + ")))))"));
    }

    private void calls() {
        of("A CALL is a TERM that begins with a letter a .. z.",
            badQuestion("X", 1), badQuestion("7", 1), badQuestion("X,a", 1), badQuestion("a,7", 3), badQuestion("X?Y", 2),
            badQuestion("X?7", 2), goodQuestion("X?a", "1"), goodQuestion("X?z(1)", "1"), goodQuestion("a", NO_SUCH), badClause("X", 0),
            badClause("Z:a", 0), badClause("0", 0), badClause("9:a", 0), badClause("a:X", 3), badClause("a:7,b", 3), goodClause("a:z"));
    }

    private void goals() {
        of("GOALS: ! (CUT); a CALL; T=T (SAME); T~T (APART); T<T (LESS); T?C (SLEEP; C a CALL).",
            goodQuestion("!,1=1,1~2,1<2,X?a", "7"), badQuestion("X=", 2), badQuestion("X~", 2), badQuestion("X<", 2), badQuestion("X?", 2),
            badQuestion("=X", 0), badQuestion("~X", 0), badQuestion("<1", 0), badQuestion("?a", 0), badQuestion("X=Y=Z", 3),
            badQuestion("X~Y~Z", 3), badQuestion("1<2<3", 3), badQuestion("X?a?b", 3), badQuestion("X?a=b", 3), badQuestion("!=a", 1),
            badQuestion("X=!", 2), badQuestion("X?!", 2), badQuestion("!a", 1), badQuestion("X>Y", 1), badQuestion("(a)", 0));
    }

    private void clausesAndQuestions() {
        of("A CLAUSE: a CALL, its HEAD, alone or with : and GOALS, its BODY, with , between.",
            badClause("", 0), goodClause("a"), badClause("a:", 2), goodClause("a:!"), badClause("a:b,", 4), badClause("a:,b", 2),
            badClause("a:b,,c", 4), badClause("a,b", 1), badClause(":b", 0), badClause("a:b:c", 3), badClause("a::b", 2),
            badClause("a!", 1), badClause("!", 0), badClause("a=b", 1), badClause("a?b", 1), goodClause("a:b,X=Y,X~Y,1<2,X?c,!"));
        of("A QUESTION: GOALS with , between.",
            badQuestion("", 0), goodQuestion("!", "1"), badQuestion("!,", 2), badQuestion(",", 0), badQuestion(",!", 0),
            badQuestion("!,,!", 2), badQuestion("!!", 1), badQuestion("!:!", 1), badQuestion("a:b", 1), goodQuestion("!,!", "2"));
    }

    private void length() {
        of("The text has at most 48 characters.",
            run("clause a(X):" + "!,".repeat(21) + "! -> 1", "question a(1) -> 24"),
            run("question " + "!,".repeat(21) + "X=f(Z) -> 23", "text X -> f(_)", "text Z -> _"),
            run("say " + "!,".repeat(21) + "X=f(Z) -> 48", "type 0x31 -> " + STATE, "count 1 -> 48", "ask -> 23", "text X -> f(_)"),
            badQuestion("!,".repeat(23) + "!a", 47), badQuestion("!,".repeat(24), 48), badClause("a(X):" + "!,".repeat(21) + ",", 47));
    }

    private void thePlace() {
        of("THE PLACE is that of the first character with which, after those before, nothing right could begin",
            badQuestion(")", 0), badQuestion("a)", 1), badQuestion("a(,b(", 2), badQuestion("a;b(", 1), badQuestion("a(b)(", 4),
            badQuestion("a(b)c", 4), badQuestion("a(X(", 3), badQuestion("X,Y", 1), badQuestion("a(b,c;", 5), badQuestion("1=1,)", 4),
            badQuestion("a(b(c),d)e", 9), badClause(")", 0), badClause("A", 0), badClause("a(b)=", 4), badClause("a:b=c=", 5),
            badClause("a:b?C", 4));
        of("or the length, if just the end is wrong.",
            badQuestion("", 0), badQuestion("X", 1), badQuestion("a(", 2), badQuestion("a(b", 3), badQuestion("a(b,", 4),
            badQuestion("a(b(c)", 6), badQuestion("1=1,", 4), badQuestion("a(b(c(d(e(f", 11), badQuestion("f(1,2,3", 7),
            badQuestion("X=a,Y", 5), badClause("", 0), badClause("a(", 2), badClause("a:", 2), badClause("a:b,", 4), badClause("a:X", 3),
            badClause("a:X?", 4));
        of("(At depth 6 ( is such.)",
            badQuestion("a(b(c(d(e(f(", 11), badQuestion("X=a(b(c(d(e(f(1", 13), badQuestion("X?a(b(c(d(e(f(g", 13),
            badQuestion("a(b(c(d(e(1,f(", 13), badClause("a(b(c(d(e(f(", 11), badClause("a:a(b(c(d(e(f(", 13),
            badQuestion("a(b(c(d(e(", 10));
    }

    // Binding and making same

    private void numbers() {
        of("those of a QUESTION in the order of A .. Z",
            marked("question Z?u,A?v,Z=A,A=1 -> " + NO_SUCH),
            marked("question Z?u,A?v,A=Z,A=1 -> " + NO_SUCH),
            marked("question A?u,Z?v,Z=A,A=1 -> " + UNSUPPORTED),
            marked("question Z?v,Y?u,Z=Y,Z=1 -> " + UNSUPPORTED));
        of("those of a CLAUSE likewise, anew for each use of it.",
            marked("clause p:Z?u,A?v,Z=A,A=1 -> 3", "question p -> " + NO_SUCH),
            marked("clause p:A?u,Z?v,Z=A,A=1 -> 3", "question p -> " + UNSUPPORTED),
            marked("clause p(A):C?u,C=A,A=1 -> 3", "question Z?v,p(Z) -> " + NO_SUCH),
            run("clause p(X,X) -> 1", "question p(A,1),p(B,2) -> 6", "text A -> 1", "text B -> 2", "count 6 -> 4"),
            run("clause p(X,X) -> 1", "question p(A,1),p(B,2),p(C,3),p(D,4) -> 12", "text A -> 1", "text B -> 2", "text C -> 3",
                "text D -> 4", "count 6 -> 8"));
        of("what is said of a TERM is said of what it stands for at last (the VALUE).",
            run("question Y=Z,X=Y,W=X,W=7 -> 8", "text W -> 7", "text Z -> 7"),
            run("question W=X,X=Y,Y?a,W?b -> 6", "sleeping W -> 2", "sleeping X -> 2", "sleeping Y -> 2"),
            run("question X=1,Y=2,X<Y -> 5", "question X=1,Y=X,X~Y -> " + NO_SUCH));
    }

    private void twoVariables() {
        of("the same VARIABLE: nothing.",
            run("question X~1,X=X -> 4", "count 5 -> 1"),
            run("question X=Y,X~1,Y=X -> 6", "count 5 -> 1"),
            run("question X?a,X?b,X=X -> 4", "sleeping X -> 2", "text X -> _"),
            run("question X~X -> " + NO_SUCH));
        of("Two VARIABLES: the one with the greater number is BOUND to the other; goals sleeping on it sleep on that one now, after those there.",
            run("question X=Y -> 2", "sleeping X -> 0", "sleeping Y -> 0", "text Y -> _"),
            run("question Y?a,X=Y -> 3", "sleeping X -> 1", "sleeping Y -> 1"),
            run("question X?a,Y=X -> 3", "sleeping X -> 1", "sleeping Y -> 1"),
            run("question X?a,Y?b,Y?c,X=Y -> 5", "sleeping X -> 3", "sleeping Y -> 3"),
            marked("question Y?u,X?v,X=Y,X=1 -> " + NO_SUCH),
            marked("question Y?v,X?u,Y=X,X=1 -> " + UNSUPPORTED),
            marked("question Z?u,Y?v,X?v,Y=Z,X=Y,X=1 -> " + NO_SUCH),
            marked("question Z?v,Y?v,X?u,Y=Z,X=Y,X=1 -> " + UNSUPPORTED));
    }

    private void aVariableAndATerm() {
        of("A VARIABLE and another TERM: it's BOUND to that (also if it's in it), and the goals sleeping on it WAKE.",
            run("question X=f(X) -> 2", "letter X -1 -> 80", "letter X 78 -> 102"),
            run("question f(X)=X -> 2", "letter X -1 -> 80"),
            run("question X=f(1,X) -> 2", "letter X 2 -> 49", "letter X 4 -> 102", "letter X 6 -> 49"),
            run("clause a -> 1", "question X?a,X=1 -> 4", "sleeping X -> 0", "question X=1 -> 2", "question X?a,1=X -> 4",
                "question X?a,X=f(X) -> 4"),
            run("clause p(1) -> 1", "clause q(2) -> 2", "question X?p(Y),X?q(Z),X=3 -> 8", "text Y -> 1", "text Z -> 2", "sleeping X -> 0",
                "question X?p(Y),W?q(Z),X=W,W=3 -> 10", "text Y -> 1", "text Z -> 2"));
    }

    private void twoLetters() {
        of("the letters and how many ARGUMENTS there are must be alike (else it FAILS at once)",
            run("clause p(f(1,2)) -> 1", "clause p(X) -> 2", "question p(f(2,Y)) -> 4", "question p(f(1)) -> 3",
                "question p(f(1,2,3)) -> 3", "question p(g(1,2)) -> 3", "question p(f) -> 3", "question p(1) -> 3",
                "question p(f(1,2)) -> 4"));
        of("and the PAIRS of ARGUMENTS, from the first on, each wholly, come next.",
            run("clause p(f(1,2),1) -> 1", "clause p(Y,Z) -> 2", "question p(f(X,X),2) -> 6", "question p(f(3,X),2) -> 5"));
    }

    private void afterBinding() {
        of("If it didn't FAIL and something was BOUND, all APARTS waiting are TESTED, the oldest first",
            run("question X~1,a=a -> 4", "question X~1,Y=Y -> 4", "question X~1,Y=2 -> 5", "question X~1,Y=Z -> 5", "question Y=2 -> 2"),
            run("clause p(1,2) -> 1", "clause p(A,B) -> 2", "question X~9,p(X,3) -> 8"),
            run("clause p -> 1", "question X~9,p -> 3"),
            run("clause s(1) -> 1", "clause s(2) -> 2", "question X~1,Y~9,s(X) -> 10", "question Y~9,X~1,s(X) -> 11"));
        of("then goals that WOKE are put in front of those TO DO, in the order in which they WOKE (those of one VARIABLE as they went to sleep).",
            marked("question X?u,X=1,v -> " + UNSUPPORTED),
            marked("question X?v,X=1,u -> " + NO_SUCH),
            marked("question X?u,X?v,X=1 -> " + UNSUPPORTED),
            marked("question X?v,X?u,X=1 -> " + NO_SUCH),
            marked("question Y?u,X?v,f(X,Y)=f(1,2) -> " + NO_SUCH),
            marked("question Y?u,X?v,f(Y,X)=f(1,2) -> " + UNSUPPORTED),
            marked("question X?u,X~1,X=1 -> " + NO_SUCH),
            marked("question X?u,f(X,1)=f(1,2) -> " + NO_SUCH),
            run("clause a -> 1", "question X?a,X=1,Y=2 -> 6"));
    }

    private void testing() {
        of("its TERMS are made SAME for a try (its PAIRS are STEPS; nothing WAKES, nothing is TESTED), and what was BOUND is freed again",
            run("question f(X,Y)~f(1,2) -> 4", "text X -> _", "text Y -> _", "question f(X,1)~f(2,3) -> 4", "text X -> _"),
            run("question X~1,f(X,Y)~f(1,2) -> 6", "count 5 -> 2"),
            marked("question X?u,X~1 -> 3", "sleeping X -> 1"),
            marked("question X?u,X~1,Y=2 -> 6", "sleeping X -> 1"),
            marked("question X?u,Y?v,X~Y -> 4", "sleeping X -> 1", "sleeping Y -> 1"));
        of("if that FAILED, it waits no more",
            run("question X~1,X=2 -> 5", "count 5 -> 0", "question X~1,X=2,Y=3 -> 7", "count 5 -> 0"),
            run("question a~b -> 2", "count 5 -> 0", "question f(X,1)~f(Y,2),X=Y -> 6"));
        of("if it didn't and nothing was BOUND, the TEST FAILS, and so does the goal (APARTS behind aren't TESTED then)",
            run("question X~1,X=1 -> " + NO_SUCH, "question X~Y,Y=X -> " + NO_SUCH, "question f(X,Y)~f(1,2),f(X,Y)=f(1,2) -> " + NO_SUCH),
            run("clause s(1) -> 1", "clause s(2) -> 2", "question X~1,Y~8,Z~9,s(X) -> 13", "count 5 -> 2"),
            run("clause t:X~1,X=1 -> 1", "clause t -> 2", "question t -> 6", "count 5 -> 0"));
        of("else it waits on.",
            run("question X~Y,X=1 -> 5", "count 5 -> 1"),
            run("question X~Y,X=1,Y=1 -> " + NO_SUCH),
            run("question f(X,Y)~f(1,2),X=1 -> 9", "count 5 -> 1"));
    }

    // Goals to do

    private void callsToDo() {
        of("CALL: the CLAUSES with the same letter and number of ARGUMENTS, in order: none: it FAILS; the first one is taken; "
            + "if there are more, a CHOICE is left.",
            run("question p(1) -> " + NO_SUCH, "clause p(1) -> 1", "question p(X) -> 2", "text X -> 1", "count 4 -> 0",
                "question p(1,2) -> " + NO_SUCH, "question q(1) -> " + NO_SUCH, "clause q(X) -> 2", "clause p -> 3", "question p(X) -> 2",
                "count 4 -> 0", "question q(X) -> 2", "count 4 -> 0", "clause p(2) -> 4", "question p(X) -> 2", "text X -> 1",
                "count 4 -> 1", "question p(1) -> 2", "count 4 -> 1"));
        of("its HEAD's ARGUMENTS are made SAME with the CALL's, as the PAIRS of ARGUMENTS are (HEAD first)",
            run("clause p -> 1", "question p -> 1", "clause p(1) -> 2", "question p(1) -> 2", "clause p(1,2,3) -> 3",
                "question p(1,2,3) -> 4", "question p(1,2,4) -> " + NO_SUCH),
            run("clause p(1,f(2),3) -> 1", "clause p(X,Y,Z) -> 2", "question p(2,f(2),3) -> 5", "question p(1,f(3),3) -> 7",
                "question p(A,f(A),A) -> 7", "question p(1,f(2),3) -> 5"));
        of("then its BODY's GOALS are put in front (woken ones before these).",
            marked("clause w(1):u -> 3", "question X?v,w(X) -> " + NO_SUCH),
            marked("clause w(1):v -> 3", "question X?u,w(X) -> " + UNSUPPORTED),
            marked("clause w:v -> 3", "question w,u -> " + NO_SUCH),
            marked("clause w:u,v -> 3", "question w -> " + UNSUPPORTED),
            marked("clause w -> 3", "question w,v -> " + NO_SUCH, "question w,u -> " + UNSUPPORTED));
    }

    private void apartsToDo() {
        of("APART: TESTED; if it's not settled (FAILED or no more waiting), it waits from now on, being the newest.",
            run("question a~b -> 2", "count 5 -> 0", "question a~a -> " + NO_SUCH, "question X~X -> " + NO_SUCH, "question X~1 -> 2",
                "count 5 -> 1", "question X~1,Y~1,X~Y -> 6", "count 5 -> 3", "question X~1,X~1 -> 4", "count 5 -> 2"),
            run("clause s(1) -> 1", "clause s(2) -> 2", "question X~1,Y~9,s(X) -> 10", "question Y~9,X~1,s(X) -> 11"));
    }

    private void lessToDo() {
        of("LESS: two digits (else UnsupportedOperationException)",
            run("question X<1 -> " + UNSUPPORTED, "question 1<X -> " + UNSUPPORTED, "question a<1 -> " + UNSUPPORTED,
                "question 1<a -> " + UNSUPPORTED, "question f(1)<2 -> " + UNSUPPORTED, "question 1<f(2) -> " + UNSUPPORTED,
                "question X<X -> " + UNSUPPORTED, "question X=a,1<X -> " + UNSUPPORTED, "question X=2,1<X -> 3"));
        of("it FAILS unless the first is below the second.",
            run("question 0<9 -> 1", "question 8<9 -> 1", "question 0<1 -> 1", "question 9<9 -> " + NO_SUCH, "question 0<0 -> " + NO_SUCH,
                "question 9<8 -> " + NO_SUCH, "question 1<0 -> " + NO_SUCH));
    }

    private void sleepToDo() {
        of("SLEEP: its TERM is no VARIABLE: the CALL is put in front; else the CALL sleeps on it, being the newest there.",
            marked("question 1?u,v -> " + UNSUPPORTED),
            marked("question a?v,u -> " + NO_SUCH),
            marked("question f(X)?u,v -> " + UNSUPPORTED),
            marked("question X=1,X?u,v -> " + UNSUPPORTED),
            marked("question X?u -> 1", "sleeping X -> 1", "question X?u,v -> " + NO_SUCH),
            marked("question X?v,X?u,X=1 -> " + NO_SUCH),
            run("clause p -> 1", "question 1?p -> 2"));
    }

    private void cutToDo() {
        of("the CHOICES left since the CALL that brought this GOAL in was begun go, its own among them",
            facts("clause q(X):p(X),! -> 3", "clause q(9) -> 4", "question p(Y),q(X) -> 7", "count 4 -> 1", "next -> 13", "text Y -> 2",
                "text X -> 1", "count 4 -> 0", "next -> " + NO_SUCH),
            facts("clause r:! -> 3", "clause r -> 4", "question p(X),r -> 4", "count 4 -> 1", "question r -> 2", "count 4 -> 0"),
            facts("clause r(X):p(X) -> 3", "clause r(8):! -> 4", "question p(Y),r(X) -> 6", "count 4 -> 3", "next -> 7", "next -> 9",
                "text X -> 8", "text Y -> 1", "count 4 -> 1"),
            run("clause t(1) -> 1", "clause t(2):! -> 2", "clause t(3) -> 3", "question t(X) -> 2", "count 4 -> 1", "next -> 4",
                "text X -> 2", "count 4 -> 0"),
            facts("clause s(X):X=1,! -> 3", "clause s(5) -> 4", "question X?p(Z),s(X) -> 8", "text Z -> 1", "count 4 -> 0"),
            facts("clause t(X):!,p(X) -> 3", "clause t(7) -> 4", "question t(X) -> 5", "count 4 -> 1", "next -> 6", "text X -> 2",
                "next -> " + NO_SUCH));
        of("(in a QUESTION: all)",
            facts("question ! -> 1", "count 4 -> 0", "question p(X),p(Y),! -> 5", "count 4 -> 0", "next -> " + NO_SUCH,
                "question p(X),!,p(Y) -> 5", "count 4 -> 1", "next -> 6", "text X -> 1", "text Y -> 2", "next -> " + NO_SUCH));
    }

    private void failing() {
        of("FAILING: all goes back to the newest CHOICE: what was BOUND, put to sleep and waiting since is as it was",
            facts("question p(X),p(Y) -> 4", "next -> 5", "text X -> 1", "text Y -> 2", "next -> 8", "text X -> 2", "text Y -> 1"),
            facts("clause p(X) -> 3", "question p(X) -> 2", "next -> 3", "text X -> 2", "next -> 4", "text X -> _"),
            facts("question X~1,p(Y),X=Y -> 13", "text X -> 2", "count 5 -> 0"),
            facts("clause p(X) -> 3", "question X~1,p(Y),X=Y -> 13", "count 5 -> 0", "next -> 18", "text X -> _", "count 5 -> 1"),
            run("clause q(X):X~3,X?z,2<1 -> 1", "clause q(X) -> 2", "question q(X) -> 7", "sleeping X -> 0", "count 5 -> 0",
                "question q(X),Y?z -> 8", "sleeping X -> 0", "sleeping Y -> 1"),
            run("clause q(X,X):2<1 -> 1", "clause q(X,Y) -> 2", "question A?z,B?z,B?z,q(A,B) -> 9", "sleeping A -> 1", "sleeping B -> 2"),
            facts("clause p(X) -> 3", "question Y?p(3),p(Y) -> 7", "sleeping Y -> 0", "next -> 12", "next -> 13", "sleeping Y -> 1",
                "text Y -> _"));
        of("the next of its CLAUSES is taken (if it's the last, the CHOICE goes).",
            facts("clause p(3) -> 3", "question p(X) -> 2", "count 4 -> 1", "next -> 3", "text X -> 2", "count 4 -> 1", "next -> 4",
                "text X -> 3", "count 4 -> 0"));
        of("No CHOICE: there's no (further) ANSWER.",
            facts("question 1=2 -> " + NO_SUCH, "question p(3) -> " + NO_SUCH, "question 1=1 -> 2", "next -> " + NO_SUCH,
                "question p(X) -> 2", "next -> 3", "next -> " + NO_SUCH));
        of("No GOALS TO DO: an ANSWER.",
            facts("question p(1) -> 2", "count 3 -> 1", "question X?z -> 1", "count 3 -> 1", "sleeping X -> 1", "question X~1 -> 2",
                "count 3 -> 1", "question p(X) -> 2", "next -> 3", "count 3 -> 2"));
    }

    // Limits

    private void theStepLimit() {
        of("After 500 STEPS since ask began (with all that next does), one more to take: IllegalStateException.",
            costs("question e -> 489", "question e,b -> 500", "count 3 -> 1", "question e,b,! -> " + STATE, "question e,b -> 500"),
            costs("question e,!,!,!,!,!,!,!,!,!,X=1 -> 500", "text X -> 1", "question e,!,!,!,!,!,!,!,!,!,!,X=1 -> " + STATE),
            costs("question e,!,!,!,!,!,!,!,!,!,X~1 -> 500", "count 5 -> 1", "question e,!,!,!,!,!,!,!,!,!,!,X~1 -> " + STATE),
            costs("question X~2,e,!,!,!,!,!,!,X=1 -> 500", "question X~2,e,!,!,!,!,!,!,!,X=1 -> " + STATE),
            costs("question e,b,X<1 -> " + STATE, "question e,b,z -> " + STATE, "question e,b,1<0 -> " + STATE),
            costs("clause f(1) -> 7", "question e,!,!,!,!,!,!,!,!,!,f(X) -> 500", "question e,!,!,!,!,!,!,!,!,!,!,f(X) -> " + STATE));
        of("(with all that next does)",
            costs("question d,e -> 490", "next -> " + STATE),
            costs("question e,b,d -> " + STATE, "question e,d -> 490", "next -> 490", "next -> " + NO_SUCH),
            costs("question d,e,!,!,!,!,!,!,!,!,!,d -> 500", "next -> 500", "next -> " + NO_SUCH),
            costs("clause g(1) -> 7", "clause g(2) -> 8", "question e,!,!,!,!,!,!,!,!,g(X) -> 499", "next -> 500", "text X -> 2"),
            costs("clause g(1) -> 7", "clause g(2) -> 8", "question e,!,!,!,!,!,!,!,!,!,g(X) -> 500", "next -> " + STATE));
        of("since ask began",
            costs("question e,b -> 500", "question e,b -> 500", "question X=1 -> 2", "question e,b,! -> " + STATE, "question e,b -> 500"));
    }

    private void whatEndsAsking() {
        String[] ended = {"count 3 -> 0", "count 4 -> 0", "count 5 -> 0", "count 6 -> 0", "letter X -1 -> " + NO_SUCH,
            "letter X 0 -> " + NO_SUCH, "sleeping X -> -1", "next -> " + NO_SUCH};
        String[] asked = facts("clause p(a) -> 3", "clause l(1) -> 4", "clause l(2):l(2) -> 5", "question p(X),Y~1,Z?z -> 5",
            "count 3 -> 1", "count 4 -> 1", "count 5 -> 1", "count 6 -> 3");
        of("When anything is thrown by ask or next (or add or drop did something), nothing is asked any more.",
            after(after(asked, "question X= -> " + BAD), ended),
            after(after(asked, "ask -> " + BAD), ended),
            after(after(asked, "question X=1,1=2 -> " + NO_SUCH), ended),
            after(after(asked, "question X=1,l(2) -> " + STATE), ended),
            after(after(asked, "question X=a,X<1 -> " + UNSUPPORTED), ended),
            after(after(asked, "next -> 9", "next -> 13", "next -> " + NO_SUCH), ended),
            after(after(asked, "question l(X) -> 2", "next -> " + STATE), ended),
            after(after(asked, "question p(X),X<9 -> 3", "next -> 5", "next -> " + UNSUPPORTED), ended),
            after(after(asked, "clause p(4) -> 6"), ended),
            after(after(asked, "drop 4 -> ok"), ended));
        of("(or add or drop did something)",
            after(asked, "clause p( -> " + BAD, "drop 5 -> " + BAD, "drop -1 -> " + BAD, "type 0x20 -> " + BAD,
                "letter X 1 -> " + NO_SUCH, "letter A 0 -> " + NO_SUCH, "letter 26 0 -> " + BAD, "sleeping 26 -> " + BAD, "count 7 -> -1",
                "say p( -> 2", "count 3 -> 1", "count 4 -> 1", "count 5 -> 1", "count 6 -> 3", "text X -> 1", "sleeping Z -> 1",
                "next -> 9", "text X -> 2"));
    }

    private void whatIsBad() {
        of("\"Bad\" is IllegalArgumentException: a number out of range, or a text that can't be read.",
            run("type 0x7f -> " + BAD, "drop 0 -> " + BAD, "letter -1 0 -> " + BAD, "letter 26 0 -> " + BAD, "sleeping -1 -> " + BAD,
                "sleeping 26 -> " + BAD),
            run("add -> " + BAD, "ask -> " + BAD, "clause a( -> " + BAD, "question a( -> " + BAD));
    }
}
