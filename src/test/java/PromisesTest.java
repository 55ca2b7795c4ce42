import java.util.ArrayList;
import java.util.List;

/** Runs of calls with the answers that the document asks for, ordered by promise. */
public final class PromisesTest {
    private static final String BAD = "IllegalArgumentException";
    private static final String STATE = "IllegalStateException";
    private static final String NO_SUCH = "NoSuchElementException";
    private static final String UNSUPPORTED = "UnsupportedOperationException";

    private static final Script SCRIPT = new Script();

    public static void main(String[] args) {
        aNewObject();
        type();
        add();
        drop();
        ask();
        next();
        letter();
        sleeping();
        count();
        orderAndLimits();
        readingQuestions();
        readingClauses();
        makingTermsSame();
        callsAndChoices();
        cuts();
        aparts();
        sleepers();
        goingBack();
        theStepLimit();
        System.out.println(SCRIPT.rows() + " calls, " + SCRIPT.wrong() + " not as due");
        if (SCRIPT.wrong() > 0) {
            System.exit(1);
        }
    }

    private static void aNewObject() {
        SCRIPT.run("1 a new object", "count 0 -> -1", "count 1 -> 0", "count 2 -> 0", "count 3 -> 0", "count 4 -> 0",
            "count 5 -> 0", "count 6 -> 0", "count 7 -> -1", "sleeping A -> -1", "letter A -1 -> " + NO_SUCH,
            "next -> " + NO_SUCH, "drop 0 -> " + BAD);
        SCRIPT.run("1 no text", "type 0 -> 0", "add -> " + BAD, "count 0 -> 0");
        SCRIPT.run("1 no clauses", "say a", "ask -> " + NO_SUCH);
    }

    private static void type() {
        SCRIPT.run("2 zeros are left out", "type 0x6100620000630000 -> 3", "type 0 -> 3", "type 0x64 -> 4", "add -> " + BAD,
            "count 0 -> 1", "count 1 -> 0");
        SCRIPT.run("2 highest first", "type 0x583d310000000000 -> 3", "ask -> 2", "text X -> 1");
        SCRIPT.run("2 the edges of a byte", "type 0x217e -> 2", "type 0x20 -> " + BAD, "type 0x7f -> " + BAD,
            "type 0x80 -> " + BAD, "type 0x01 -> " + BAD, "type -1 -> " + BAD, "count 1 -> 2");
        SCRIPT.run("2 none is added", "type 0x6161616161616120 -> " + BAD, "type 0x2061616161616161 -> " + BAD,
            "type -8000000000000000000 -> " + BAD, "count 1 -> 0");
        SCRIPT.run("2 at most 48", "say " + "a".repeat(40) + " -> 40", "say aaaaaaa -> 47", "say aa -> " + STATE,
            "count 1 -> 47", "say a -> 48", "say a -> " + STATE, "type 0 -> 48", "count 1 -> 48", "count 0 -> -1");
    }

    private static void add() {
        SCRIPT.run("3 comes last", "say p(1)", "add -> 1", "count 1 -> 0", "say p(2)", "add -> 2", "say p(X)",
            "ask -> 2", "text X -> 1", "next -> 3", "text X -> 2", "next -> " + NO_SUCH);
        SCRIPT.run("3 the text is empty then", "say p(", "add -> " + BAD, "count 1 -> 0", "count 2 -> 0", "say p",
            "add -> 1", "count 2 -> 1");
        SCRIPT.run("3 ends what is asked", "say X=1", "ask -> 2", "count 3 -> 1", "say p", "add -> 1", "count 3 -> 0",
            "letter X 0 -> " + NO_SUCH, "sleeping X -> -1", "next -> " + NO_SUCH);
        SCRIPT.run("3 typing ends nothing", "say X=1", "ask -> 2", "say p", "text X -> 1", "count 3 -> 1", "count 1 -> 1");
        List<String> calls = new ArrayList<>();
        for (int i = 1; i <= 12; i++) {
            calls.add("say p(" + (i % 10) + ") -> 4");
            calls.add("add -> " + i);
        }
        calls.addAll(List.of("say p(X)", "ask -> 2", "say ))", "add -> " + STATE, "count 0 -> -1", "count 1 -> 0",
            "count 2 -> 12", "text X -> 1", "next -> 3", "add -> " + STATE, "count 3 -> 2", "drop 11 -> ok", "say ))",
            "add -> " + BAD, "count 0 -> 0", "say p(z)", "add -> 12"));
        SCRIPT.run("3 at most 12", calls.toArray(new String[0]));
    }

    private static void drop() {
        String[] three = {"say p(1)", "add -> 1", "say p(2)", "add -> 2", "say p(3)", "add -> 3"};
        SCRIPT.run("4 the middle one", joined(three, "drop 1 -> ok", "count 2 -> 2", "say p(X)", "ask -> 2", "text X -> 1",
            "next -> 3", "text X -> 3", "next -> " + NO_SUCH));
        SCRIPT.run("4 the first, then a new one", joined(three, "drop 0 -> ok", "say p(4)", "add -> 3", "say p(X)",
            "ask -> 2", "text X -> 2", "next -> 3", "text X -> 3", "next -> 4", "text X -> 4"));
        SCRIPT.run("4 it isn't there", joined(three, "drop 3 -> " + BAD, "drop -1 -> " + BAD, "drop -2147483648 -> " + BAD,
            "drop 2147483647 -> " + BAD, "drop 2 -> ok", "drop 2 -> " + BAD, "count 2 -> 2", "drop 0 -> ok", "drop 0 -> ok",
            "drop 0 -> " + BAD, "count 2 -> 0"));
        SCRIPT.run("4 ends what is asked", joined(three, "say p(X)", "ask -> 2", "drop 3 -> " + BAD, "text X -> 1",
            "count 4 -> 1", "drop 2 -> ok", "count 4 -> 0", "sleeping X -> -1", "next -> " + NO_SUCH));
        SCRIPT.run("4 leaves the text", joined(three, "say p(X", "drop 0 -> ok", "count 1 -> 3", "say ) -> 4", "ask -> 2",
            "text X -> 2"));
    }

    private static void ask() {
        SCRIPT.run("5 the steps so far", "say X=1", "ask -> 2", "say !,!", "ask -> 2", "say a=a,f(a,b)=f(a,b)",
            "ask -> 6", "count 1 -> 0");
        SCRIPT.run("5 bad, and nothing is asked then", "say X=1", "ask -> 2", "say X=", "ask -> " + BAD, "count 0 -> 2",
            "count 1 -> 0", "count 3 -> 0", "count 6 -> 0", "sleeping X -> -1", "letter X 0 -> " + NO_SUCH, "next -> " + NO_SUCH);
        SCRIPT.run("5 no answer, and nothing is asked then", "say X=1", "ask -> 2", "say 1=2", "ask -> " + NO_SUCH,
            "count 1 -> 0", "count 3 -> 0", "count 0 -> -1", "letter X 0 -> " + NO_SUCH);
        SCRIPT.run("5 less than what is no digit", "say X<1", "ask -> " + UNSUPPORTED, "count 6 -> 0", "say 1<X",
            "ask -> " + UNSUPPORTED, "say a<1", "ask -> " + UNSUPPORTED, "say 1<a", "ask -> " + UNSUPPORTED,
            "say 1<f(2)", "ask -> " + UNSUPPORTED, "say X=2,1<X", "ask -> 3", "say 0<9", "ask -> 1",
            "say 9<0", "ask -> " + NO_SUCH, "say 5<5", "ask -> " + NO_SUCH);
        SCRIPT.run("5 in place of what is asked", "say X=1", "ask -> 2", "say Y=2", "ask -> 2", "letter X 0 -> " + NO_SUCH,
            "text Y -> 2", "count 3 -> 1", "count 6 -> 1");
        SCRIPT.run("5 no choice stays from before", "say p", "add -> 1", "say p", "add -> 2", "say p,X~1", "ask -> 3", "count 4 -> 1",
            "count 5 -> 1", "say X=1", "ask -> 2", "count 4 -> 0", "count 5 -> 0", "next -> " + NO_SUCH);
    }

    private static void next() {
        String[] facts = {"say p(1)", "add -> 1", "say p(2)", "add -> 2"};
        SCRIPT.run("6 one after another", joined(facts, "say p(X),p(Y)", "ask -> 4", "text X -> 1", "text Y -> 1", "count 4 -> 2",
            "next -> 5", "text Y -> 2", "count 3 -> 2", "count 4 -> 1", "next -> 8", "text X -> 2", "text Y -> 1", "next -> 9",
            "count 4 -> 0", "count 3 -> 4", "next -> " + NO_SUCH, "count 3 -> 0", "letter X 0 -> " + NO_SUCH,
            "next -> " + NO_SUCH));
        SCRIPT.run("6 nothing is asked", joined(facts, "next -> " + NO_SUCH, "say p(X)", "next -> " + NO_SUCH, "count 1 -> 4"));
        SCRIPT.run("6 no choice", joined(facts, "say X=1", "ask -> 2", "next -> " + NO_SUCH, "count 6 -> 0"));
        SCRIPT.run("6 throws what a goal throws", "say p(1)", "add -> 1", "say p(a)", "add -> 2", "say p(X),X<2",
            "ask -> 3", "next -> " + UNSUPPORTED, "next -> " + NO_SUCH, "count 4 -> 0");
        SCRIPT.run("6 no steps at all", "say a", "add -> 1", "say a", "add -> 2", "say a", "ask -> 1", "count 4 -> 1",
            "next -> 1", "count 4 -> 0", "count 3 -> 2", "next -> " + NO_SUCH);
    }

    private static void letter() {
        SCRIPT.run("7 written", "say X=f(1,g(Y),b),Z=Y", "ask -> 4", "text X -> f(1,g(_),b)", "letter X -1 -> 11",
            "letter X 0 -> 102", "letter X 10 -> 41", "letter X 11 -> " + NO_SUCH, "letter X -2 -> " + NO_SUCH,
            "letter X -2147483648 -> " + NO_SUCH, "letter X 2147483647 -> " + NO_SUCH, "text Y -> _", "text Z -> _",
            "letter Z 0 -> 95", "letter Z 1 -> " + NO_SUCH);
        SCRIPT.run("7 which variable", "say A=1,Z=2", "ask -> 4", "text A -> 1", "text Z -> 2", "letter 0 0 -> 49",
            "letter 25 0 -> 50", "letter 26 0 -> " + BAD, "letter -1 0 -> " + BAD, "letter -1 -1 -> " + BAD,
            "letter B -1 -> " + NO_SUCH, "letter 2147483647 0 -> " + BAD, "letter -2147483648 5 -> " + BAD);
        SCRIPT.run("7 nothing is asked", "letter A -1 -> " + NO_SUCH, "letter 26 -1 -> " + BAD);
        SCRIPT.run("7 ends at 80", "say X=f(X)", "ask -> 2", "letter X -1 -> 80", "text X -> " + "f(".repeat(40),
            "letter X 79 -> 40", "letter X 80 -> " + NO_SUCH);
        String z = "f(1,1,1)";
        String y = "g(" + z + "," + z + "," + z + ")";
        SCRIPT.run("7 longer than 80", "say Z=f(1,1,1),Y=g(Z,Z,Z),X=h(Y,Y,Y)", "ask -> 6", "text Y -> " + y,
            "letter X -1 -> 80", "text X -> " + ("h(" + y + "," + y + "," + y + ")").substring(0, 80));
        SCRIPT.run("7 just 80", "say Z=f(1,1,1),Y=g(Z,Z,Z),X=h(Y,Y,f(f(f(Z))))", "ask -> 6", "letter X -1 -> 80", "letter X 79 -> 41",
            "letter X 80 -> " + NO_SUCH, "text X -> h(" + y + "," + y + ",f(f(f(" + z + "))))");
        SCRIPT.run("7 just 79", "say Z=f(1,1,1),Y=g(Z,Z,Z),X=h(Y,Y,f(f(Z,1)))", "ask -> 6", "letter X -1 -> 79", "letter X 78 -> 41",
            "letter X 79 -> " + NO_SUCH);
        SCRIPT.run("7 a name that was in the page before", "say A=B", "ask -> 2", "say X=1", "ask -> 2",
            "letter B 0 -> " + NO_SUCH, "letter A 0 -> " + NO_SUCH, "text X -> 1", "say a=a,B=1", "ask -> 4", "text B -> 1", "say X=1",
            "ask -> 2", "letter B 0 -> " + NO_SUCH, "sleeping B -> -1");
    }

    private static void sleeping() {
        SCRIPT.run("8 how many", "say X?a,X?b,Y?c,Z=1", "ask -> 5", "sleeping X -> 2", "sleeping Y -> 1", "sleeping Z -> 0",
            "sleeping A -> -1", "sleeping 26 -> " + BAD, "sleeping -1 -> " + BAD, "sleeping 2147483647 -> " + BAD);
        SCRIPT.run("8 nothing is asked", "sleeping X -> -1", "sleeping 26 -> " + BAD, "say X?a", "ask -> 1", "sleeping X -> 1",
            "say )", "ask -> " + BAD, "sleeping X -> -1");
        SCRIPT.run("8 moved to the older variable", "say X?a,Y?b,Y?c,X=Y", "ask -> 5", "sleeping X -> 3", "sleeping Y -> 3");
        SCRIPT.run("8 woken", "say a", "add -> 1", "say X?a,Y?a,X=Y,Y=1", "ask -> 8", "sleeping X -> 0", "sleeping Y -> 0");
        SCRIPT.run("8 on the value", "say X=Y,Y?a,X?b", "ask -> 4", "sleeping X -> 2", "sleeping Y -> 2");
        SCRIPT.run("8 in a term", "say X=f(Y),Y?a", "ask -> 3", "sleeping X -> 0", "sleeping Y -> 1");
    }

    private static void count() {
        SCRIPT.run("9 the place", "count 0 -> -1", "say a(", "ask -> " + BAD, "count 0 -> 2", "say a)", "add -> " + BAD,
            "count 0 -> 1", "say a", "add -> 1", "count 0 -> 1", "say a", "ask -> 1", "count 0 -> 1", "say b",
            "ask -> " + NO_SUCH, "count 0 -> 1");
        SCRIPT.run("9 length and clauses", "say a(X)", "count 1 -> 4", "count 2 -> 0", "add -> 1", "count 1 -> 0", "count 2 -> 1");
        SCRIPT.run("9 what is asked", "say p(1)", "add -> 1", "say p(Y):Y=Z", "add -> 2", "say p(X),X~5,A~B",
            "ask -> 6", "count 3 -> 1", "count 4 -> 1", "count 5 -> 1", "count 6 -> 3", "next -> 13", "count 3 -> 2",
            "count 4 -> 0", "count 5 -> 2", "count 6 -> 5", "next -> " + NO_SUCH, "count 3 -> 0", "count 4 -> 0", "count 5 -> 0",
            "count 6 -> 0");
        SCRIPT.run("9 variables of what failed", "say p(A,B,1):C=D", "add -> 1", "say p(A,B,2)", "add -> 2",
            "say p(a,b,2)", "ask -> 7", "count 6 -> 6");
        SCRIPT.run("9 else", "count 7 -> -1", "count -1 -> -1", "count 2147483647 -> -1", "count -2147483648 -> -1",
            "say X=1", "ask -> 2", "count 7 -> -1", "count -1 -> -1");
    }

    private static void orderAndLimits() {
        SCRIPT.run("10 a bad byte is seen first", "say " + "a".repeat(48) + " -> 48", "type 0x6120 -> " + BAD, "type 0x61 -> " + STATE,
            "type 0x2061616161616161 -> " + BAD, "count 1 -> 48");
        SCRIPT.run("10 a bad clause leaves what is asked", "say p(1)", "add -> 1", "say p(2)", "add -> 2", "say p(X),Y?p(Y)",
            "ask -> 3", "say f(A,B,C", "add -> " + BAD, "count 0 -> 7", "count 3 -> 1", "count 4 -> 1", "text X -> 1",
            "sleeping Y -> 1", "next -> 5", "text X -> 2");
    }

    private static void readingQuestions() {
        String[] wrong = {"0 ", "0 ,", "2 a,", "2 a,,", "7 a(b,c,d", "2 a(!)", "3 a(b=c)", "3 X=Y=Z", "1 !=a", "2 a?!", "3 a?b?c",
            "3 a?b=c", "6 a<b,X~", "1 a)", "0 _", "1 a:", "2 !,", "1 aa", "1 12=X", "1 X(", "3 a(X(", "4 a(b)(", "13 X=a(b(c(d(e(f(",
            "13 X=a(b(c(d(e(f(1))))))", "13 X?a(b(c(d(e(f(1))))))", "11 a(b(c(d(e(f(1))))))", "7 a(1,2,3,4)", "2 a()", "2 a(,", "0 (a)",
            "1 X", "1 7", "1 X,a", "2 X?Y", "2 X?7", "2 X~!", "2 X<", "0 =a", "0 ?a", "5 a(b)=", "1 a;b", "1 a!", "1 !!", "1 !a",
            "48 " + "a,".repeat(24), "47 " + "a,".repeat(23) + "X)", "8 a(b(c),d", "9 a(b(c),d)e", "3 X?a~b", "0 :a", "1 a.", "0 ~"};
        for (String one : wrong) {
            int gap = one.indexOf(' ');
            readWrong("reading a question", "ask", one.substring(gap + 1), one.substring(0, gap));
        }
        String[] right = {"!", "X=Y", "a(b(c(d(e(f)))))=X", "X=a(b(c(d(e(f)))))", "a(1,X,b)=a(1,X,b)", "0=0,!,X~Y,1<2,X?a,Y?b(c)",
            "a~b", "Z?a(b(c(d(e(f)))))", "a(b,c(d,e(f,g,h)))=A", "!,".repeat(23) + "!"};
        for (String one : right) {
            SCRIPT.run("reading a question", "say " + one, "ask -> " + steps(one), "count 0 -> -1");
        }
    }

    /** The steps that the right questions of above take. */
    private static String steps(String question) {
        switch (question) {
            case "!":
                return "1";
            case "a(1,X,b)=a(1,X,b)":
                return "5";
            case "0=0,!,X~Y,1<2,X?a,Y?b(c)":
                return "8";
            case "Z?a(b(c(d(e(f)))))":
                return "1";
            default:
                return question.startsWith("!,!") ? "24" : "2";
        }
    }

    private static void readingClauses() {
        String[] wrong = {"0 ", "0 !", "1 a=b", "1 a~b", "1 a<b", "1 a,b", "1 a?b", "3 a:b:c", "0 A", "0 A:b", "0 1", "0 1:a", "2 a(", "2 a:",
            "2 a:,", "4 a:b,", "3 a:X", "3 a:1", "4 a(X)b", "4 a(X)(", "3 a:!!", "11 a(b(c(d(e(f(1))))))", "13 a:a(b(c(d(e(f(1))))))", "4 a:X?Y",
            "7 a(1,2,3,4)", "1 ab", "0 :a", "2 a::", "5 a:X=Y=Z"};
        for (String one : wrong) {
            int gap = one.indexOf(' ');
            readWrong("reading a clause", "add", one.substring(gap + 1), one.substring(0, gap));
        }
        String[] right = {"a", "a(1)", "a(X,f(Y),Z)", "a:!", "a:b", "a:X=Y", "a(X):X?a(X),X~1,X<2,!", "a(b(c(d(e(f))))):g",
            "a:" + "!,".repeat(22) + "!", "z:a(b(c(d(e(f)))))"};
        for (String one : right) {
            SCRIPT.run("reading a clause", "say " + one, "add -> 1", "count 0 -> -1");
        }
    }

    private static void readWrong(String name, String call, String text, String place) {
        SCRIPT.run(name + " " + text, "say " + text, call + " -> " + BAD, "count 0 -> " + place,
            "count 1 -> 0", "count 2 -> 0");
    }

    private static void makingTermsSame() {
        SCRIPT.run("same: pairs are steps", "say f(X,Y)=f(1,g(X))", "ask -> 4", "text Y -> g(1)",
            "say f(g(1,2),3)=f(g(1,2),3)", "ask -> 6", "say X=X", "ask -> 2", "say X=Y,Y=X", "ask -> 4");
        SCRIPT.run("same: letters and arguments", "say f(1)=g(1)", "ask -> " + NO_SUCH, "say f(1)=f(1,2)", "ask -> " + NO_SUCH,
            "say f=f(1)", "ask -> " + NO_SUCH, "say 1=a", "ask -> " + NO_SUCH, "say 1=1", "ask -> 2");
        SCRIPT.run("same: fails at once", "say p(f(1,2))", "add -> 1", "say p(g(1))", "add -> 2", "say p(g(X))", "ask -> 4",
            "say p(f(2,X))", "ask -> " + NO_SUCH);
        SCRIPT.run("same: each pair wholly", "say p(f(1,2),1)", "add -> 1", "say p(f(Y,Y),Z)", "add -> 2",
            "say p(f(X,X),2)", "ask -> 8", "count 6 -> 3");
        SCRIPT.run("same: a variable in its own value", "say X=f(X)", "ask -> 2", "say X=f(X),Y=f(Y),X=Y", "ask -> " + STATE,
            "say X=f(X),X=f(f(X))", "ask -> " + STATE, "say X=f(X,1),X=f(Y,2)", "ask -> " + NO_SUCH);
        SCRIPT.run("same: the greater number is bound", "say X=Z,Z=Y,Y?a,Y=1", "ask -> " + NO_SUCH, "say p(A,B):B=A,A=7", "add -> 1",
            "say p(X,Y)", "ask -> 7", "text X -> 7", "text Y -> 7");
    }

    private static void callsAndChoices() {
        SCRIPT.run("calls: letter and number of arguments", "say p", "add -> 1", "say p(1)", "add -> 2", "say p(1,2)", "add -> 3",
            "say q(1)", "add -> 4", "say p(X)", "ask -> 2", "count 4 -> 0", "say p", "ask -> 1", "count 4 -> 0",
            "say p(X,Y)", "ask -> 3", "say p(1,2,3)", "ask -> " + NO_SUCH, "say r", "ask -> " + NO_SUCH);
        SCRIPT.run("calls: a choice is left though it can't fit", "say p(1)", "add -> 1", "say p(2)", "add -> 2", "say p(1)",
            "ask -> 2", "count 4 -> 1", "next -> " + NO_SUCH, "say p(2)", "ask -> 3", "count 4 -> 0");
        SCRIPT.run("calls: the body comes in front", "say p(X):X=1,q(X)", "add -> 1", "say q(1)", "add -> 2",
            "say p(X),X=2", "ask -> " + NO_SUCH, "say p(X),X=1", "ask -> 8", "say p(X),X<2", "ask -> 7");
        SCRIPT.run("calls: variables are new for each use", "say p(X,f(X))", "add -> 1", "say p(A,B),p(B,C)", "ask -> 6",
            "text A -> _", "text B -> f(_)", "text C -> f(f(_))", "count 6 -> 5");
    }

    private static void cuts() {
        String[] facts = {"say p(1)", "add -> 1", "say p(2)", "add -> 2", "say q(X):p(X),!", "add -> 3", "say q(9)",
            "add -> 4", "say r(X):p(X)", "add -> 5", "say r(8):!", "add -> 6"};
        SCRIPT.run("cut: in a clause", joined(facts, "say q(X)", "ask -> 5", "text X -> 1", "count 4 -> 0", "next -> " + NO_SUCH));
        SCRIPT.run("cut: older choices stay", joined(facts, "say p(Y),q(X)", "ask -> 7", "count 4 -> 1", "next -> 13", "text Y -> 2",
            "count 4 -> 0", "next -> " + NO_SUCH));
        SCRIPT.run("cut: in a question", joined(facts, "say p(Y),p(X),!", "ask -> 5", "count 4 -> 0", "say p(X),!,p(Y)", "ask -> 5",
            "count 4 -> 1", "next -> 6", "text Y -> 2", "next -> " + NO_SUCH));
        SCRIPT.run("cut: in the last clause", joined(facts, "say p(Y),r(X)", "ask -> 6", "count 4 -> 3", "next -> 7", "count 4 -> 2",
            "next -> 9", "text X -> 8", "text Y -> 1", "count 4 -> 1", "next -> 14", "text Y -> 2"));
        SCRIPT.run("cut: in a clause with more behind it", joined(facts, "say t(X):p(X)", "add -> 7", "say t(X):p(X),!", "add -> 8", "say t(5)",
            "add -> 9", "say t(X)", "ask -> 4", "count 4 -> 2", "next -> 5", "count 4 -> 1", "next -> 9", "text X -> 1", "count 4 -> 0",
            "next -> " + NO_SUCH));
        SCRIPT.run("cut: of what it woke", joined(facts, "say X?p(Z),q(X)", "ask -> 8", "count 4 -> 0", "text Z -> 1"));
        SCRIPT.run("cut: then fails", joined(facts, "say s:!,1=2", "add -> 7", "say s", "add -> 8", "say s", "ask -> " + NO_SUCH));
    }

    private static void aparts() {
        SCRIPT.run("apart: settled", "say a~b", "ask -> 2", "count 5 -> 0", "say a~a", "ask -> " + NO_SUCH, "say X~X",
            "ask -> " + NO_SUCH, "say f(X,1)~f(Y,2)", "ask -> 4", "count 5 -> 0", "say f(X,X)~f(1,2)", "ask -> 4", "count 5 -> 0",
            "text X -> _");
        SCRIPT.run("apart: waits", "say X~1", "ask -> 2", "count 5 -> 1", "text X -> _", "say X~1,X=2", "ask -> 5", "count 5 -> 0",
            "say X~1,X=1", "ask -> " + NO_SUCH, "say X~Y,X=1", "ask -> 5", "count 5 -> 1", "say X~Y,X=1,Y=1",
            "ask -> " + NO_SUCH, "say X~Y,X=1,Y=2", "ask -> 8", "count 5 -> 0", "say X~Y,Y=X", "ask -> " + NO_SUCH);
        SCRIPT.run("apart: not tested if nothing was bound", "say X~1,a=a", "ask -> 4", "say X~1,Y=Y", "ask -> 4", "say X~1,Y=Z",
            "ask -> 5");
        SCRIPT.run("apart: those behind aren't tested", "say s(1)", "add -> 1", "say s(2)", "add -> 2", "say X~1,Y~9,s(X)",
            "ask -> 10", "count 5 -> 1", "say Y~9,X~1,s(X)", "ask -> 11", "count 5 -> 1");
        SCRIPT.run("apart: before the woken", "say u:1<a", "add -> 1", "say X?u,X~1,X=1", "ask -> " + NO_SUCH, "say X?u,X~2,X=1",
            "ask -> " + UNSUPPORTED);
        SCRIPT.run("apart: a try wakes nothing", "say u:1<a", "add -> 1", "say X?u,X~1", "ask -> 3", "sleeping X -> 1",
            "say X?u,X~1,Y=2", "ask -> 6", "sleeping X -> 1", "say X?u,Y?u,X~Y", "ask -> 4", "sleeping X -> 1", "sleeping Y -> 1");
        SCRIPT.run("apart: a try tests nothing", "say X~1,f(X,Y)~f(1,2)", "ask -> 6", "count 5 -> 2");
        SCRIPT.run("apart: endless", "say X=f(X),Y=f(Y),X~Y", "ask -> " + STATE);
    }

    private static void sleepers() {
        String[] two = {"say u:1<a", "add -> 1", "say v:2<1", "add -> 2", "say w(1):u", "add -> 3"};
        SCRIPT.run("sleep: in the order in which they went", joined(two, "say X?u,X?v,X=1", "ask -> " + UNSUPPORTED,
            "say X?v,X?u,X=1", "ask -> " + NO_SUCH));
        SCRIPT.run("sleep: moved ones behind", joined(two, "say Y?u,X?v,X=Y,X=1", "ask -> " + NO_SUCH, "say Y?v,X?u,X=Y,Y=1",
            "ask -> " + UNSUPPORTED, "say X?v,Y?u,Y=X,X=1", "ask -> " + NO_SUCH, "say X?u,X=Y,Y?v,X=1", "ask -> " + UNSUPPORTED));
        SCRIPT.run("sleep: in the order in which they woke", joined(two, "say Y?u,X?v,f(X,Y)=f(1,2)", "ask -> " + NO_SUCH,
            "say Y?u,X?v,f(Y,X)=f(1,2)", "ask -> " + UNSUPPORTED));
        SCRIPT.run("sleep: woken before the body", joined(two, "say X?v,w(X)", "ask -> " + NO_SUCH, "say X?u,X=1,v",
            "ask -> " + UNSUPPORTED));
        SCRIPT.run("sleep: not if it failed", joined(two, "say X?u,f(X,1)=f(1,2)", "ask -> " + NO_SUCH));
        SCRIPT.run("sleep: no variable", joined(two, "say 1?v,u", "ask -> " + NO_SUCH, "say f(X)?u,v", "ask -> " + UNSUPPORTED,
            "say X=1,X?v,u", "ask -> " + NO_SUCH, "say p", "add -> 4", "say a?p", "ask -> 2"));
        SCRIPT.run("sleep: an answer all the same", joined(two, "say X?v,Y?u", "ask -> 2", "count 3 -> 1", "sleeping X -> 1"));
        SCRIPT.run("sleep: with the value that woke it", "say p(2)", "add -> 1", "say p(3)", "add -> 2", "say X?p(X),X=3",
            "ask -> 6", "say X?p(X),X=4", "ask -> " + NO_SUCH, "say X?p(Y),X=f(Y)", "ask -> 5", "text X -> f(2)", "next -> 6",
            "text X -> f(3)");
    }

    private static void goingBack() {
        String[] facts = {"say p(1)", "add -> 1", "say p(2)", "add -> 2", "say p(X)", "add -> 3"};
        SCRIPT.run("back: what was bound", joined(facts, "say p(X)", "ask -> 2", "text X -> 1", "next -> 3", "text X -> 2", "next -> 4",
            "text X -> _", "count 6 -> 2"));
        SCRIPT.run("back: what waits", joined(facts, "say X~1,p(Y),X=Y", "ask -> 13", "text X -> 2", "count 5 -> 0", "next -> 18",
            "text X -> _", "count 5 -> 1"));
        SCRIPT.run("back: what was put to wait", joined(facts, "say q:X~1,2<1", "add -> 4", "say q", "add -> 5", "say q", "ask -> 4",
            "count 5 -> 0"));
        SCRIPT.run("back: what sleeps", joined(facts, "say q(X):X?p(X),2<1", "add -> 4", "say q(X):X?p(X)", "add -> 5",
            "say q(X)", "ask -> 6", "sleeping X -> 1", "say Y?p(X),q(Y)", "ask -> 7", "sleeping Y -> 2"));
        SCRIPT.run("back: nothing sleeps any more", joined(facts, "say q(X):X?z,2<1", "add -> 4", "say q(X)", "add -> 5", "say q(X)", "ask -> 5",
            "sleeping X -> 0", "say q(X),X=7", "ask -> 7", "text X -> 7"));
        SCRIPT.run("back: what moved", joined(facts, "say q(X,X):2<1", "add -> 4", "say q(X,Y)", "add -> 5",
            "say A?p(A),B?p(B),B?p(1),q(A,B)", "ask -> 9", "sleeping A -> 1", "sleeping B -> 2"));
        SCRIPT.run("back: what woke sleeps again", joined(facts, "say Y?p(3),p(Y)", "ask -> 7", "text Y -> 1", "sleeping Y -> 0", "count 4 -> 1",
            "next -> 12", "text Y -> 2", "next -> 13", "text Y -> _", "sleeping Y -> 1", "next -> " + NO_SUCH));
    }

    private static void theStepLimit() {
        // b takes 11 steps and a takes 111.
        String[] costs = {"say a:b,b,b,b,b,b,b,b,b,b", "add -> 1", "say b:c,c,c,c,c,c,c,c,c,c", "add -> 2", "say c", "add -> 3",
            "say d", "add -> 4", "say d", "add -> 5", "say e:a,a,a,a,b,b,b,b", "add -> 6"};
        SCRIPT.run("steps: what they cost", joined(costs, "say b", "ask -> 11", "say a", "ask -> 111", "say e", "ask -> 489"));
        SCRIPT.run("steps: just 500", joined(costs, "say e,b", "ask -> 500", "count 3 -> 1", "say e,b,!", "ask -> " + STATE,
            "count 3 -> 0", "next -> " + NO_SUCH));
        SCRIPT.run("steps: a pair is one too many", joined(costs, "say e,!,!,!,!,!,!,!,!,!,X=1", "ask -> 500",
            "say e,!,!,!,!,!,!,!,!,!,!,X=1", "ask -> " + STATE, "say e,!,!,!,!,!,!,!,!,!,!,X~1", "ask -> " + STATE,
            "say X~2,e,!,!,!,!,!,!,!,X=1", "ask -> " + STATE, "say X~2,e,!,!,!,!,!,!,X=1", "ask -> 500"));
        SCRIPT.run("steps: before anything else is seen", joined(costs, "say e,b,X<1", "ask -> " + STATE, "say e,b,z", "ask -> " + STATE,
            "say e,!,!,!,!,!,!,!,!,!,!,X<1", "ask -> " + UNSUPPORTED, "say e,!,!,!,!,!,!,!,!,!,!,z", "ask -> " + NO_SUCH));
        SCRIPT.run("steps: next goes on counting", joined(costs, "say d,e,!,!,!,!,!,!,!,!,!,d", "ask -> 500", "count 4 -> 1", "next -> 500",
            "count 3 -> 2", "count 4 -> 0", "next -> " + NO_SUCH, "say d,e", "ask -> 490", "next -> " + STATE, "count 4 -> 0",
            "next -> " + NO_SUCH, "say e,d", "ask -> 490", "next -> 490"));
        SCRIPT.run("steps: ask begins anew", joined(costs, "say e,b", "ask -> 500", "say e,b", "ask -> 500", "say l:l", "add -> 7",
            "say l", "ask -> " + STATE, "say e,b", "ask -> 500"));
    }

    private static String[] joined(String[] first, String... more) {
        List<String> all = new ArrayList<>(List.of(first));
        all.addAll(List.of(more));
        return all.toArray(new String[0]);
    }
}
