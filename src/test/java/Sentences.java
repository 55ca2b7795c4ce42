import java.io.IOException;
import java.nio.file.Files;
import java.nio.file.Path;
import java.util.ArrayList;
import java.util.Collections;
import java.util.List;

/**
 * Sentences of the document, each with runs of calls (rows as Script takes them) that would go another way
 * if the sentence didn't hold. A sentence must stand in the document as it is quoted, so that a test
 * whose sentence was changed there is noticed. The tests by sentence extend this.
 */
abstract class Sentences {
    static final String BAD = "IllegalArgumentException";
    static final String STATE = "IllegalStateException";
    static final String NO_SUCH = "NoSuchElementException";
    static final String UNSUPPORTED = "UnsupportedOperationException";

    private static final Path DOCUMENT = Path.of("..", "shared", "DOC.md");

    private final Script script = new Script();
    private final String document = document();
    private String title = "";
    private int sentences;
    private int misquoted;

    /** The sentences that come next stand under this title. */
    void section(String newTitle) {
        title = newTitle;
        if (!document.isEmpty() && sectionText().isEmpty()) {
            misquoted++;
            System.out.println("no section is called " + title);
        }
    }

    void of(String sentence, String[]... runs) {
        sentences++;
        String name = title + ": \"" + sentence + "\"";
        if (!document.isEmpty() && !sectionText().contains(sentence)) {
            misquoted++;
            System.out.println(name + " does not stand there");
        }
        for (String[] run : runs) {
            script.run(name, run);
        }
    }

    /** Tells how it went; a test ends with this. */
    void end() {
        String quotes = document.isEmpty() ? "no document to look them up in" : misquoted + " misquoted";
        System.out.println(sentences + " sentences (" + quotes + "), " + script.rows() + " calls, " + script.wrong() + " not as due");
        if (misquoted + script.wrong() > 0) {
            System.exit(1);
        }
    }

    static String[] run(String... rows) {
        return rows;
    }

    static String[] after(String[] first, String... more) {
        List<String> all = new ArrayList<>(List.of(first));
        all.addAll(List.of(more));
        return all.toArray(new String[0]);
    }

    static String[] times(int many, String row) {
        return Collections.nCopies(many, row).toArray(new String[0]);
    }

    static String[] badQuestion(String text, int place) {
        return run("question " + text + " -> " + BAD, "count 0 -> " + place, "count 1 -> 0", "count 3 -> 0");
    }

    static String[] badClause(String text, int place) {
        return run("clause " + text + " -> " + BAD, "count 0 -> " + place, "count 1 -> 0", "count 2 -> 0");
    }

    static String[] goodQuestion(String text, String answer) {
        return run("question " + text + " -> " + answer, "count 0 -> -1", "count 1 -> 0");
    }

    static String[] goodClause(String text) {
        return run("clause " + text + " -> 1", "count 0 -> -1", "count 1 -> 0", "count 2 -> 1");
    }

    /** Some sentences go on in a fenced block, so the fences are left out. */
    private static String document() {
        if (!Files.exists(DOCUMENT)) {
            return "";
        }
        try {
            return Files.readString(DOCUMENT).replaceAll("```[a-z]*", "").replaceAll("[ \n]+", " ");
        } catch (IOException e) {
            return "";
        }
    }

    private String sectionText() {
        int from = document.indexOf("## " + title + " ");
        int to = document.indexOf(" ## ", Math.max(from, 0) + 3);
        return from < 0 ? "" : document.substring(from, to < 0 ? document.length() : to);
    }
}
