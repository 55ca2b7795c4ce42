import com.sun.management.ThreadMXBean;
import java.lang.management.ManagementFactory;

/**
 * The dearest runs stay small: one room of 600,000 objects and 7.3 million fields and elements is for a
 * whole run of 512 calls. Bytes are measured, four for an int, so the bounds here are far below it.
 */
public final class RoomTest {
    private static final ThreadMXBean THREADS = (ThreadMXBean) ManagementFactory.getThreadMXBean();
    private static final long RUN_LIMIT = 4_000_000;
    private static final long OBJECT_LIMIT = 12_000;

    private static boolean well = true;
    private static int sum;

    private interface Work {
        void go();
    }

    public static void main(String[] args) {
        Work[] works = {
            () -> new GoalDesk().count(0),
            () -> ask("a", "a:a,A=B,C=D,E=F,G=H,I=J,K=L,M=N,O=P,Q=R,S=T,U=V"),
            () -> ask("X=f(X,X,X),Y=f(Y,Y,Y),X=Y"),
            () -> ask("s", "s:X?p,Y?p,s", "p"),
            () -> ask("s(X)", "s(X):X?p,s(X)", "p"),
            () -> ask("s(X)", "s(X):X~Y,s(Z)"),
            () -> ask("r", "r", "r:p,r", "p", "p"),
            () -> ask("Y=f(Y,Y,Y)"),
        };
        String[] names = {"a new object", "many variables", "many pairs", "many sleepers", "sleepers on one", "many aparts", "many choices",
            "long texts"};
        for (int i = 0; i < works.length; i++) {
            works[i].go();
            long before = THREADS.getCurrentThreadAllocatedBytes();
            works[i].go();
            long bytes = THREADS.getCurrentThreadAllocatedBytes() - before;
            long limit = i == 0 ? OBJECT_LIMIT : RUN_LIMIT;
            System.out.println(names[i] + ": " + bytes + " bytes");
            well = well && bytes <= limit;
        }
        System.out.println(well ? "all stays in its room (" + sum + " answers)" : "too much room is taken");
        if (!well) {
            System.exit(1);
        }
    }

    /** The clauses are added, then the question is asked, gone on with and looked at until 512 calls are made. */
    private static void ask(String question, String... clauses) {
        GoalDesk desk = new GoalDesk();
        int calls = 0;
        for (String clause : clauses) {
            Script.say(desk, clause);
            desk.add();
            calls += 7;
        }
        while (calls < 512) {
            Script.say(desk, question);
            calls += 1 + (question.length() + 7) / 8;
            try {
                desk.ask();
                for (int i = 0; i < 3; i++) {
                    calls += 2;
                    sum += desk.next() + desk.count(5);
                }
            } catch (RuntimeException e) {
                sum += look(desk, calls);
            }
        }
    }

    private static int look(GoalDesk desk, int calls) {
        Script.say(desk, "Y=f(Y,Y,Y)");
        int answer = desk.ask();
        return answer + desk.letter('Y' - 'A', calls % 80);
    }
}
