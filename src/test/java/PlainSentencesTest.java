/** A test for each sentence of the document that names no boundary case; the others have TermsBoundaryTest and PromisesBoundaryTest. */
public final class PlainSentencesTest extends Sentences {
    /** u throws and v fails, so it's seen which of the two is done first. */
    private static final String[] MARKS = {"clause u:1<a -> 1", "clause v:2<1 -> 2"};
    private static final String[] FACTS = {"clause p(1) -> 1", "clause p(2) -> 2"};

    public static void main(String[] args) {
        new PlainSentencesTest().all();
    }

    private void all() {
        whatItIs();
        section("Terms");
        binding();
        makingSame();
        goalsToDo();
        ask();
        letter();
        end();
    }

    private static String[] marked(String... rows) {
        return after(MARKS, rows);
    }

    private static String[] facts(String... rows) {
        return after(FACTS, rows);
    }

    private void whatItIs() {
        section("What it is");
        of("clauses are read, questions are asked, and answers come one after another",
            facts("count 2 -> 2", "question p(X) -> 2", "text X -> 1", "next -> 3", "text X -> 2", "next -> " + NO_SUCH));
        of("variables are bound and freed again on the way back",
            facts("clause p(Z) -> 3", "question p(X) -> 2", "text X -> 1", "next -> 3", "next -> 4", "text X -> _"));
        of("goals can sleep on a variable until it gets a value",
            facts("question X?p(Y) -> 1", "sleeping X -> 1", "text Y -> _", "question X?p(Y),X=3 -> 5", "sleeping X -> 0", "text Y -> 1"));
        of("two terms can be told to stay different",
            facts("question X~1,p(X) -> 7", "text X -> 2", "next -> " + NO_SUCH));
    }

    private void binding() {
        // Which of two variables is the older is seen by whose sleepers wake first when both got a value as one.
        String[] makers = {"clause f(X):X=c(A),A?u -> 3", "clause g(X):X=c(A),A?v -> 4"};
        of("VARIABLES are numbered as they come to be",
            after(marked(makers), "question f(X),g(Y),X=Y,X=c(1) -> " + UNSUPPORTED),
            after(marked(makers), "question g(Y),f(X),X=Y,X=c(1) -> " + NO_SUCH),
            after(marked(makers), "question f(Y),g(X),X=Y,X=c(1) -> " + UNSUPPORTED),
            after(marked(makers), "question g(X),f(Y),X=Y,X=c(1) -> " + NO_SUCH),
            after(marked(makers), "question f(X),Y?v,X=c(Y),Y=1 -> " + NO_SUCH),
            after(marked(makers), "question Y?v,f(X),X=c(Y),Y=1 -> " + NO_SUCH));
        of("A VARIABLE may be BOUND to a TERM",
            run("question X=Y -> 2", "text X -> _", "question X=1 -> 2", "text X -> 1", "question X=a -> 2", "text X -> a",
                "question X=f(Y) -> 2", "text X -> f(_)", "text Y -> _", "question X=f(Y),Y=g(Z),Z=1 -> 6", "text X -> f(g(1))"));
    }

    private void makingSame() {
        of("PAIRS are gone through, the first being both TERMS; each PAIR is a STEP",
            run("question 1=1 -> 2", "question X=f(1,2) -> 2", "question f(1)=f(1) -> 3", "question f(1,2)=f(1,2) -> 4",
                "question f(1,2,3)=f(1,2,3) -> 5", "question f(g(1))=f(g(1)) -> 4", "question f(g(1),h(2,X))=f(g(Y),h(Z,3)) -> 7",
                "text X -> 3", "text Y -> 1", "text Z -> 2"),
            run("clause d:f(1,2)=f(3,4) -> 1", "clause d -> 2", "question d -> 4"),
            run("clause d:f(1,2)=f(1,4) -> 1", "clause d -> 2", "question d -> 5"),
            run("clause d:1=2 -> 1", "clause d -> 2", "question d -> 3"));
    }

    private void goalsToDo() {
        of("GOALS TO DO are done from the first on, each being a STEP.",
            marked("question u,v -> " + UNSUPPORTED, "question v,u -> " + NO_SUCH),
            marked("clause w:u -> 3", "question w,v -> " + UNSUPPORTED),
            run("question ! -> 1", "question !,!,! -> 3", "question 1<2,1<2 -> 2", "question X?z,Y?z -> 2", "clause z -> 1",
                "question z,z,z,z -> 4", "question z,!,1<2,X?z -> 4", "clause y:z,z -> 2", "question y,y -> 6"));
        of("SAME: as said.",
            run("question X=f(Y),Y=1 -> 4", "text X -> f(1)", "question f(X,2)=f(1,Y) -> 4", "text X -> 1", "text Y -> 2",
                "question 1=2 -> " + NO_SUCH, "question f(X,X)=f(1,2) -> " + NO_SUCH));
    }

    private void ask() {
        section("Promise 5: ask");
        of("its first ANSWER is sought.",
            facts("question p(X) -> 2", "text X -> 1", "count 3 -> 1", "count 4 -> 1"),
            facts("question p(X),1<X -> 5", "text X -> 2", "count 3 -> 1", "count 4 -> 0"));
    }

    private void letter() {
        section("Promise 7: letter");
        of("its VALUE written as a text",
            run("question X=f(1,g(Y,a),b(Z)),Z=h -> 4", "text X -> f(1,g(_,a),b(h))", "letter X -1 -> 16", "text Y -> _", "text Z -> h",
                "letter X 0 -> 102", "letter X 1 -> 40", "letter X 3 -> 44", "letter X 15 -> 41", "letter X 16 -> " + NO_SUCH));
    }
}
