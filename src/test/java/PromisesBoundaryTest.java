import java.util.ArrayList;
import java.util.List;

/** A test for each sentence of the promises 1 to 10, and of "What it is", that names a boundary case. */
public final class PromisesBoundaryTest extends Sentences {
    private static final String LOWEST = "-2147483648";
    private static final String HIGHEST = "2147483647";

    private static final String[] FACTS = {"clause p(1) -> 1", "clause p(2) -> 2", "clause p(3) -> 3"};
    /** What is seen when nothing is asked; X was a variable of the question. */
    private static final String[] NOTHING_ASKED = {"count 3 -> 0", "count 4 -> 0", "count 5 -> 0", "count 6 -> 0",
        "letter X -1 -> " + NO_SUCH, "sleeping X -> -1", "next -> " + NO_SUCH};

    public static void main(String[] args) {
        new PromisesBoundaryTest().all();
    }

    private void all() {
        whatItIs();
        aNewObject();
        type();
        add();
        drop();
        ask();
        next();
        letter();
        sleeping();
        countAlways();
        countIfAsked();
        orderAndLimits();
        end();
    }

    private static String[] facts(String... rows) {
        return after(FACTS, rows);
    }

    /** The clauses p(1) .. p(9), p(0), p(1), p(2). */
    private static String[] twelve(String... rows) {
        List<String> all = new ArrayList<>();
        for (int i = 1; i <= 12; i++) {
            all.add("clause p(" + (i % 10) + ") -> " + i);
        }
        all.addAll(List.of(rows));
        return all.toArray(new String[0]);
    }

    private void whatItIs() {
        // type and add, twice; type and ask; 505 times letter; next is call 512.
        String[] calls = after(run("clause p(1) -> 1", "clause p(2) -> 2", "question p(X) -> 2"), times(505, "letter X 0 -> 49"));
        section("What it is");
        of("An object is used for at most 512 calls after it has been made",
            after(calls, "next -> 3"));
    }

    private void aNewObject() {
        section("Promise 1: A new object");
        of("No CLAUSES",
            run("count 2 -> 0", "drop 0 -> " + BAD, "question a -> " + NO_SUCH, "clause a -> 1"));
        of("nothing is asked.",
            NOTHING_ASKED,
            run("count 0 -> -1", "count 1 -> 0", "ask -> " + BAD, "count 0 -> 0"));
    }

    private void type() {
        section("Promise 2: type");
        of("Adds the eight bytes of the number, highest first, those that are 0 left out, to the text.",
            run("type 0x583d310000000000 -> 3", "ask -> 2", "text X -> 1"),
            run("type 0x583d31 -> 3", "ask -> 2", "text X -> 1"),
            run("type 0x5800003d00000031 -> 3", "ask -> 2", "text X -> 1"),
            run("type 0x583d6628312c3229 -> 8", "ask -> 2", "text X -> f(1,2)"),
            run("type 0x583d662831293d -> 7", "type 0x31 -> 8", "ask -> " + BAD, "count 0 -> 6"),
            run("type 0x583d662831 -> 5", "type 0x2900000000000000 -> 6", "ask -> 2", "text X -> f(1)"));
        of("those that are 0 left out",
            run("type 0 -> 0", "count 1 -> 0", "type 0x61 -> 1", "type 0 -> 1", "type 0x6100 -> 2", "type 0x6100000000000000 -> 3",
                "count 1 -> 3"),
            run("say " + "a".repeat(48) + " -> 48", "type 0 -> 48", "count 1 -> 48"));
        of("One not 33 .. 126: bad",
            run("type 0x20 -> " + BAD, "type 0x21 -> 1", "type 0x7e -> 2", "type 0x7f -> " + BAD, "type 0x01 -> " + BAD,
                "type 0x80 -> " + BAD, "type 0xff -> " + BAD, "type -1 -> " + BAD, "type -9223372036854775808 -> " + BAD,
                "type 0x2000000000000000 -> " + BAD, "type 0x2100000000000000 -> 3", "type 0x7e00000000000000 -> 4",
                "type 0x7f00000000000000 -> " + BAD, "type 0x217e217e217e217e -> 12", "count 1 -> 12"));
        of("more than 48 in all: IllegalStateException",
            run("say " + "a".repeat(40) + " -> 40", "type 0x6161616161616161 -> 48", "type 0x61 -> " + STATE, "type 0 -> 48"),
            run("say " + "a".repeat(40) + " -> 40", "type 0x61 -> 41", "type 0x6161616161616161 -> " + STATE,
                "type 0x61616161616161 -> 48", "type 0x6161616161616161 -> " + STATE, "count 1 -> 48"),
            run("say " + "a".repeat(47) + " -> 47", "type 0x6161 -> " + STATE, "type 0x6100000000000000 -> 48",
                "type 0x6100000000000000 -> " + STATE));
        of("then none is added.",
            run("type 0x61626320 -> " + BAD, "count 1 -> 0", "type 0x2061626300000000 -> " + BAD, "count 1 -> 0", "type 0x583d31 -> 3",
                "type 0x6161616161616180 -> " + BAD, "count 1 -> 3", "ask -> 2", "text X -> 1"),
            run("say " + "!,".repeat(22) + "X=1 -> 47", "type 0x2c21 -> " + STATE, "count 1 -> 47", "ask -> 24", "text X -> 1"));
        of("Answers its length.",
            run("type 0x61 -> 1", "type 0x6262 -> 3", "type 0 -> 3", "type 0x6363636363636363 -> 11"));
    }

    private void add() {
        section("Promise 3: add");
        of("The text, empty then also if it's bad, is read as a CLAUSE, which comes last.",
            run("add -> " + BAD, "count 0 -> 0", "count 1 -> 0", "count 2 -> 0"),
            run("say p( -> 2", "add -> " + BAD, "count 1 -> 0", "count 2 -> 0", "say p -> 1", "add -> 1", "count 1 -> 0", "add -> " + BAD,
                "count 2 -> 1"),
            facts("drop 0 -> ok", "clause p(1) -> 3", "question p(X) -> 2", "text X -> 2", "next -> 3", "text X -> 3", "next -> 4",
                "text X -> 1", "next -> " + NO_SUCH));
        of("12 are there: IllegalStateException; the text is empty then, too, but isn't read.",
            twelve("say p -> 1", "add -> " + STATE, "count 1 -> 0", "count 2 -> 12", "count 0 -> -1"),
            twelve("say p( -> 2", "add -> " + STATE, "count 1 -> 0", "count 0 -> -1", "add -> " + STATE, "count 0 -> -1"),
            twelve("say p( -> 2", "drop 11 -> ok", "add -> " + BAD, "count 0 -> 2", "clause p(x) -> 12", "clause p(y) -> " + STATE));
        of("Answers how many there are.",
            twelve("count 2 -> 12"),
            facts("drop 1 -> ok", "clause q -> 3", "drop 0 -> ok", "drop 0 -> ok", "drop 0 -> ok", "clause q -> 1"));
    }

    private void drop() {
        section("Promise 4: drop");
        of("CLAUSE i (from 0) goes.",
            facts("drop 0 -> ok", "count 2 -> 2", "question p(X) -> 2", "text X -> 2", "next -> 3", "text X -> 3"),
            facts("drop 1 -> ok", "question p(X) -> 2", "text X -> 1", "next -> 3", "text X -> 3"),
            facts("drop 2 -> ok", "question p(X) -> 2", "text X -> 1", "next -> 3", "text X -> 2", "next -> " + NO_SUCH),
            twelve("drop 11 -> ok", "count 2 -> 11", "drop 0 -> ok", "count 2 -> 10", "question p(X) -> 2", "text X -> 2"));
        of("It isn't there: bad.",
            run("drop 0 -> " + BAD, "drop -1 -> " + BAD),
            facts("drop 3 -> " + BAD, "drop -1 -> " + BAD, "drop " + LOWEST + " -> " + BAD, "drop " + HIGHEST + " -> " + BAD,
                "count 2 -> 3", "drop 2 -> ok", "drop 2 -> " + BAD, "drop 1 -> ok", "drop 0 -> ok", "drop 0 -> " + BAD, "count 2 -> 0"),
            twelve("drop 12 -> " + BAD, "count 2 -> 12", "drop 11 -> ok", "drop 11 -> " + BAD),
            facts("question p(X) -> 2", "drop 3 -> " + BAD, "text X -> 1", "next -> 3"));
    }

    private void ask() {
        section("Promise 5: ask");
        of("The text, empty then also if it's bad, is read as a QUESTION",
            run("ask -> " + BAD, "count 0 -> 0", "count 1 -> 0"),
            run("say X= -> 2", "ask -> " + BAD, "count 1 -> 0", "say X=1 -> 3", "ask -> 2", "count 1 -> 0", "ask -> " + BAD,
                "count 0 -> 0"),
            run("say 1=2 -> 3", "ask -> " + NO_SUCH, "count 1 -> 0", "say a<1 -> 3", "ask -> " + UNSUPPORTED, "count 1 -> 0"));
        of("in place of what is asked, also if it's bad",
            after(facts("question p(X) -> 2", "question X= -> " + BAD), NOTHING_ASKED),
            after(facts("question p(X) -> 2", "ask -> " + BAD), NOTHING_ASKED),
            facts("question p(X),X~9 -> 4", "count 4 -> 1", "question Y=1 -> 2", "letter X -1 -> " + NO_SUCH, "text Y -> 1",
                "count 3 -> 1", "count 4 -> 0", "count 5 -> 0", "count 6 -> 1", "next -> " + NO_SUCH));
        of("There's none: NoSuchElementException.",
            after(run("question X=1,X=2 -> " + NO_SUCH), NOTHING_ASKED),
            facts("question p(4) -> " + NO_SUCH, "question q -> " + NO_SUCH, "question p(X),X<1 -> " + NO_SUCH, "question p(X),2<X -> 7"));
        of("Answers the STEPS so far.",
            facts("question ! -> 1", "question p(X) -> 2", "question p(3) -> 4", "question p(X),X=2 -> 7", "question p(X) -> 2"));
    }

    private void next() {
        section("Promise 6: next");
        of("The next ANSWER, after FAILING.",
            facts("question p(X),p(Y) -> 4", "next -> 5", "text X -> 1", "text Y -> 2", "next -> 6", "next -> 9", "text X -> 2",
                "text Y -> 1"),
            run("clause a -> 1", "clause a -> 2", "question a -> 1", "next -> 1", "count 3 -> 2"));
        of("None, or nothing is asked: NoSuchElementException.",
            run("next -> " + NO_SUCH),
            run("question X=1 -> 2", "next -> " + NO_SUCH, "next -> " + NO_SUCH),
            facts("question p(X) -> 2", "next -> 3", "next -> 4", "next -> " + NO_SUCH, "letter X 0 -> " + NO_SUCH, "next -> " + NO_SUCH),
            facts("next -> " + NO_SUCH, "question p(X) -> 2", "drop 2 -> ok", "next -> " + NO_SUCH, "question p(X) -> 2", "clause q -> 3",
                "next -> " + NO_SUCH),
            facts("say p(X) -> 4", "next -> " + NO_SUCH, "count 1 -> 4", "ask -> 2"));
        of("Answers the STEPS since ask began.",
            facts("question p(X),X~1 -> 7", "next -> 10", "question p(X) -> 2", "next -> 3", "next -> 4"));
    }

    private void letter() {
        section("Promise 7: letter");
        of("Of the VARIABLE v (0 A .. 25 Z) of the QUESTION in the ANSWER",
            run("question A=a,Z=z -> 4", "letter 0 0 -> 97", "letter 25 0 -> 122", "letter 1 0 -> " + NO_SUCH, "letter 24 0 -> " + NO_SUCH,
                "letter -1 0 -> " + BAD, "letter 26 0 -> " + BAD, "letter -1 -1 -> " + BAD, "letter 26 -1 -> " + BAD,
                "letter " + LOWEST + " 0 -> " + BAD, "letter " + HIGHEST + " 0 -> " + BAD, "letter 256 0 -> " + BAD,
                "letter 26 99 -> " + BAD),
            run("letter -1 0 -> " + BAD, "letter 26 0 -> " + BAD),
            facts("question p(X) -> 2", "letter 23 0 -> 49", "next -> 3", "letter 23 0 -> 50"));
        of("_ for VARIABLES that aren't BOUND",
            run("question X=f(Y,1),Z=Y -> 4", "text X -> f(_,1)", "text Y -> _", "text Z -> _", "letter Y -1 -> 1", "letter Y 0 -> 95"));
        of("its character i, or its length (i = -1)",
            run("question X=f(1,2) -> 2", "letter X -1 -> 6", "letter X 0 -> 102", "letter X 5 -> 41"),
            run("question X=1 -> 2", "letter X -1 -> 1", "letter X 0 -> 49"));
        String z = "f(1,1,1)";
        String y = "g(" + z + "," + z + "," + z + ")";
        String start = "question Z=f(1,1,1),Y=g(Z,Z,Z),X=h(Y,Y,";
        of("a text ends at 80 characters",
            run(start + "f(f(Z,1))) -> 6", "letter X -1 -> 79", "letter X 78 -> 41", "letter X 79 -> " + NO_SUCH,
                "text X -> h(" + y + "," + y + ",f(f(" + z + ",1)))"),
            run(start + "f(f(f(Z)))) -> 6", "letter X -1 -> 80", "letter X 79 -> 41", "letter X 80 -> " + NO_SUCH,
                "text X -> h(" + y + "," + y + ",f(f(f(" + z + "))))"),
            run(start + "f(f(Z),1,1)) -> 6", "letter X -1 -> 80", "letter X 79 -> 41", "letter X 80 -> " + NO_SUCH,
                "text X -> h(" + y + "," + y + ",f(f(" + z + "),1,1)"),
            run("question X=f(X) -> 2", "letter X -1 -> 80", "letter X 78 -> 102", "letter X 79 -> 40", "letter X 80 -> " + NO_SUCH,
                "letter X 81 -> " + NO_SUCH));
        of("Nothing is asked, it isn't in the QUESTION, or there's no such character: NoSuchElementException.",
            run("letter X -1 -> " + NO_SUCH, "letter X 0 -> " + NO_SUCH, "letter 0 -1 -> " + NO_SUCH, "letter 25 0 -> " + NO_SUCH),
            run("question X=1 -> 2", "letter Y -1 -> " + NO_SUCH, "letter W 0 -> " + NO_SUCH, "letter X 1 -> " + NO_SUCH,
                "letter X -2 -> " + NO_SUCH, "letter X " + LOWEST + " -> " + NO_SUCH, "letter X " + HIGHEST + " -> " + NO_SUCH,
                "letter X 0 -> 49", "letter X -1 -> 1"),
            run("question A=B,Y=1 -> 4", "question X=1 -> 2", "letter A -1 -> " + NO_SUCH, "letter B -1 -> " + NO_SUCH,
                "letter Y -1 -> " + NO_SUCH),
            run("clause p(Y):Y=1 -> 1", "question p(X) -> 4", "text X -> 1", "letter Y -1 -> " + NO_SUCH),
            run("question X=1 -> 2", "next -> " + NO_SUCH, "letter X -1 -> " + NO_SUCH));
    }

    private void sleeping() {
        section("Promise 8: sleeping");
        of("How many goals sleep on the VALUE of the VARIABLE v",
            run("question A?a,Z?a,Z?b -> 3", "sleeping 0 -> 1", "sleeping 25 -> 2", "sleeping -1 -> " + BAD, "sleeping 26 -> " + BAD,
                "sleeping " + LOWEST + " -> " + BAD, "sleeping " + HIGHEST + " -> " + BAD),
            run("question X=Y -> 2", "sleeping X -> 0", "question X=Y,Y?a -> 3", "sleeping X -> 1", "sleeping Y -> 1"),
            run("question " + "X?a,".repeat(11) + "X?a -> 12", "sleeping X -> 12"),
            run("sleeping -1 -> " + BAD, "sleeping 26 -> " + BAD));
        of("0 if it's no VARIABLE",
            run("clause a -> 1", "question X=1 -> 2", "sleeping X -> 0", "question X=f(Y),Y?a -> 3", "sleeping X -> 0", "sleeping Y -> 1",
                "question X?a,X=1 -> 4", "sleeping X -> 0"));
        of("-1 if it's not in the QUESTION or nothing is asked.",
            run("sleeping X -> -1", "sleeping 0 -> -1", "sleeping 25 -> -1", "question X?a -> 1", "sleeping X -> 1", "sleeping Y -> -1",
                "sleeping A -> -1", "question Y?a -> 1", "sleeping X -> -1", "next -> " + NO_SUCH, "sleeping Y -> -1"),
            run("question X?a -> 1", "ask -> " + BAD, "sleeping X -> -1", "question X?a -> 1", "clause a -> 1", "sleeping X -> -1",
                "question X?a -> 1", "drop 0 -> ok", "sleeping X -> -1"));
    }

    private void countAlways() {
        section("Promise 9: count");
        of("THE PLACE of the latest text that couldn't be read, -1 if there was none (0)",
            run("count 0 -> -1", "clause a -> 1", "question a -> 1", "question b -> " + NO_SUCH, "question 1<a -> " + UNSUPPORTED,
                "type 0x20 -> " + BAD, "drop 7 -> " + BAD, "count 0 -> -1", "question a(b -> " + BAD, "count 0 -> 3",
                "clause a) -> " + BAD, "count 0 -> 1", "clause a -> 2", "count 0 -> 1", "question a -> 1", "count 0 -> 1", "ask -> " + BAD,
                "count 0 -> 0", "question " + "!,".repeat(24) + " -> " + BAD, "count 0 -> 48"),
            twelve("say ( -> 1", "add -> " + STATE, "count 0 -> -1"));
        of("the text's length (1)",
            run("count 1 -> 0", "say abc -> 3", "count 1 -> 3", "say " + "a".repeat(45) + " -> 48", "count 1 -> 48", "add -> " + BAD,
                "count 1 -> 0"));
        of("CLAUSES (2)",
            run("count 2 -> 0"),
            facts("count 2 -> 3", "clause p( -> " + BAD, "count 2 -> 3", "drop 0 -> ok", "count 2 -> 2"),
            twelve("count 2 -> 12", "clause p -> " + STATE, "count 2 -> 12"));
    }

    private void countIfAsked() {
        section("Promise 9: count");
        of("ANSWERS so far to what is asked (3)",
            facts("question p(X) -> 2", "count 3 -> 1", "next -> 3", "count 3 -> 2", "next -> 4", "count 3 -> 3", "question p(X) -> 2",
                "count 3 -> 1", "next -> 3", "next -> 4", "next -> " + NO_SUCH, "count 3 -> 0"));
        of("CHOICES left (4)",
            facts("question 1=1 -> 2", "count 4 -> 0", "question p(X),p(Y) -> 4", "count 4 -> 2", "next -> 5", "next -> 6",
                "count 4 -> 1", "question p(X) -> 2", "next -> 3", "count 4 -> 1", "next -> 4", "count 4 -> 0"));
        of("APARTS waiting (5)",
            run("question a~b -> 2", "count 5 -> 0", "question X~1 -> 2", "count 5 -> 1", "question X~1,Y~2,X=3 -> 8", "count 5 -> 1",
                "question " + "X~1,".repeat(11) + "X~1 -> 24", "count 5 -> 12"));
        of("VARIABLES that came to be for it so far, also those gone on the way back (6)",
            run("question a=a -> 2", "count 6 -> 0", "question X=X -> 2", "count 6 -> 1",
                "question A=B,C=D,E=F,G=H,I=J,K=L,M=N,O=P,Q=R,S=T,U=V,W=X -> 24", "count 6 -> 24"),
            run("clause p(A,B,1):C=D -> 1", "clause p(A,B,2) -> 2", "question p(a,b,2) -> 7", "count 6 -> 6", "question p(a,b,X) -> 6",
                "count 6 -> 5", "next -> 9", "count 6 -> 7"));
        String[] nothing = {"count 3 -> 0", "count 4 -> 0", "count 5 -> 0", "count 6 -> 0"};
        of("all 0 if nothing is asked",
            nothing,
            after(facts("question p(X),Y~1 -> 4", "count 3 -> 1", "count 4 -> 1", "count 5 -> 1", "count 6 -> 2", "clause q -> 4"),
                nothing),
            after(facts("question p(X),Y~1 -> 4", "drop 0 -> ok"), nothing),
            after(facts("question p(X),Y~1 -> 4", "ask -> " + BAD), nothing),
            after(facts("question p(X),Y~1,p(4) -> " + NO_SUCH), nothing));
        of("else -1.",
            run("count 7 -> -1", "count -1 -> -1", "count " + LOWEST + " -> -1", "count " + HIGHEST + " -> -1", "count 8 -> -1",
                "count 9 -> -1", "count 10 -> -1"),
            facts("question p(X) -> 2", "count 7 -> -1", "count -1 -> -1", "count 11 -> -1", "count -2 -> -1",
                "count " + LOWEST + " -> -1", "count " + HIGHEST + " -> -1"));
    }

    private void orderAndLimits() {
        section("Promise 10: Order and limits");
        of("type: a byte that is bad is seen before more than 48 characters.",
            run("say " + "a".repeat(48) + " -> 48", "type 0x20 -> " + BAD, "type 0x6120 -> " + BAD, "type 0x2061 -> " + BAD,
                "type 0x616161616161617f -> " + BAD, "type 0x7f61616161616161 -> " + BAD, "type 0x61 -> " + STATE, "count 1 -> 48"),
            run("say " + "a".repeat(47) + " -> 47", "type 0x616120 -> " + BAD, "type 0x206161 -> " + BAD, "type 0x6161 -> " + STATE,
                "count 1 -> 47"));
        String[] stays = {"count 3 -> 1", "count 4 -> 1", "count 5 -> 1", "count 6 -> 3", "text X -> 1", "sleeping Z -> 1", "next -> 9",
            "text X -> 2", "count 3 -> 2", "count 6 -> 3"};
        String question = "question p(X),Y~1,Z?z -> 5";
        of("add: if the text is bad, or 12 CLAUSES are there, what is asked stays as it is.",
            after(facts(question, "clause p(A,B,C -> " + BAD), stays),
            after(facts(question, "add -> " + BAD), stays),
            after(facts(question, "clause p(9):A=B,C=D,X=Y,!! -> " + BAD), stays),
            after(twelve(question, "clause p(A) -> " + STATE), stays),
            after(twelve(question, "clause p(A -> " + STATE), stays),
            after(twelve(question, "add -> " + STATE), stays));
    }
}
