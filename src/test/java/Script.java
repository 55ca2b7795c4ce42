import java.util.function.IntSupplier;

/**
 * Runs a row of calls on a new desk. A row is a call, then " -> " and the answer that is due:
 * a number, "ok", or the name of an exception. Calls: say TEXT (typed in pieces of eight; answers what
 * the last type answered; without " -> " the length of that text is due), type NUMBER, add, drop I, ask, next, letter V I, text V (all characters
 * of it by letter), sleeping V, count WHAT; and two at once: clause TEXT (say it, then add), question TEXT
 * (say it, then ask). V is a capital or a number.
 */
final class Script {
    private int wrong;
    private int rows;

    int wrong() {
        return wrong;
    }

    int rows() {
        return rows;
    }

    void run(String name, String... calls) {
        GoalDesk desk = new GoalDesk();
        for (String row : calls) {
            int arrow = row.lastIndexOf(" -> ");
            String call = arrow < 0 ? row : row.substring(0, arrow);
            String due = arrow < 0 ? Integer.toString(row.length() - "say ".length()) : row.substring(arrow + 4);
            String got = answer(desk, call);
            rows++;
            if (!got.equals(due)) {
                wrong++;
                System.out.println(name + ": " + call + " answered " + got + ", due is " + due);
            }
        }
    }

    private static String answer(GoalDesk desk, String call) {
        String[] words = call.split(" ", 2);
        String rest = words.length > 1 ? words[1] : "";
        switch (words[0]) {
            case "say":
                return caught(() -> say(desk, rest));
            case "type":
                return caught(() -> desk.type(Long.decode(rest)));
            case "add":
                return caught(desk::add);
            case "clause":
                return caught(() -> sayAndAdd(desk, rest));
            case "question":
                return caught(() -> sayAndAsk(desk, rest));
            case "drop":
                String answer = caught(() -> drop(desk, Integer.parseInt(rest)));
                return answer.equals("0") ? "ok" : answer;
            case "ask":
                return caught(desk::ask);
            case "next":
                return caught(desk::next);
            case "letter":
                String[] both = rest.split(" ");
                return caught(() -> desk.letter(variable(both[0]), Integer.parseInt(both[1])));
            case "text":
                return text(desk, variable(rest));
            case "sleeping":
                return caught(() -> desk.sleeping(variable(rest)));
            case "count":
                return caught(() -> desk.count(Integer.parseInt(rest)));
            default:
                throw new IllegalArgumentException("no such call: " + call);
        }
    }

    private static String caught(IntSupplier call) {
        try {
            return Integer.toString(call.getAsInt());
        } catch (RuntimeException e) {
            return e.getClass().getSimpleName();
        }
    }

    static int say(GoalDesk desk, String text) {
        int answer = 0;
        for (int i = 0; i < text.length(); i += 8) {
            long eight = 0;
            for (int k = i; k < Math.min(i + 8, text.length()); k++) {
                eight = eight << 8 | text.charAt(k);
            }
            answer = desk.type(eight);
        }
        return answer;
    }

    private static int sayAndAdd(GoalDesk desk, String text) {
        say(desk, text);
        return desk.add();
    }

    private static int sayAndAsk(GoalDesk desk, String text) {
        say(desk, text);
        return desk.ask();
    }

    private static int drop(GoalDesk desk, int i) {
        desk.drop(i);
        return 0;
    }

    private static String text(GoalDesk desk, int v) {
        StringBuilder text = new StringBuilder();
        try {
            int length = desk.letter(v, -1);
            for (int i = 0; i < length; i++) {
                text.append((char) desk.letter(v, i));
            }
            return text.toString();
        } catch (RuntimeException e) {
            return e.getClass().getSimpleName();
        }
    }

    private static int variable(String word) {
        char c = word.charAt(0);
        return c >= 'A' && c <= 'Z' ? c - 'A' : Integer.parseInt(word);
    }
}
