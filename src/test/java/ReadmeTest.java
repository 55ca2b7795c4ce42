import java.io.IOException;
import java.nio.file.Files;
import java.nio.file.Path;
import java.util.ArrayList;
import java.util.List;
import java.util.regex.Matcher;
import java.util.regex.Pattern;
import java.util.stream.Stream;

/** README.md holds: its example goes as the comments in it say, and it names every test. */
public final class ReadmeTest {
    private static final Path README = Path.of("README.md");
    private static final Path TESTS = Path.of("src", "test", "java");
    private static final Pattern EXAMPLE = Pattern.compile("```java\n(.*?)```", Pattern.DOTALL);
    private static final Pattern CALL = Pattern.compile("desk\\.(\\w+)\\((.*?)\\);\\s+// (answers|throws) ([^\\s:;]+).*");
    private static final String[] CALLS = {"type", "add", "drop", "ask", "next", "letter", "sleeping", "count"};

    public static void main(String[] args) throws IOException {
        String readme = Files.readString(README);
        List<String> rows = exampleRows(readme);
        Script script = new Script();
        script.run("the example", rows.toArray(new String[0]));
        int missing = callsWithoutExample(rows) + testsWithoutName(readme);
        System.out.println(script.rows() + " calls of the example, " + script.wrong() + " not as due");
        if (script.wrong() + missing > 0) {
            System.exit(1);
        }
    }

    /** The calls of the example as rows for Script; a line of another form makes a row that Script refuses. */
    private static List<String> exampleRows(String readme) {
        List<String> rows = new ArrayList<>();
        Matcher example = EXAMPLE.matcher(readme);
        while (example.find()) {
            for (String line : example.group(1).split("\n")) {
                if (!line.isBlank() && !line.startsWith("GoalDesk desk = new GoalDesk();")) {
                    rows.add(row(line));
                }
            }
        }
        return rows;
    }

    private static String row(String line) {
        Matcher call = CALL.matcher(line);
        if (!call.matches()) {
            return line;
        }
        String arguments = call.group(2).replace(", ", " ").replaceAll("L$", "");
        return (call.group(1) + " " + arguments).trim() + " -> " + due(call.group(4));
    }

    private static String due(String told) {
        if (told.equals("nothing")) {
            return "ok";
        }
        return told.startsWith("'") ? Integer.toString(told.charAt(1)) : told;
    }

    private static int callsWithoutExample(List<String> rows) {
        int missing = 0;
        for (String call : CALLS) {
            if (rows.stream().noneMatch(row -> row.split(" ")[0].equals(call))) {
                missing++;
                System.out.println("the example has no call of " + call);
            }
        }
        return missing;
    }

    private static int testsWithoutName(String readme) throws IOException {
        try (Stream<Path> files = Files.list(TESTS)) {
            List<String> unnamed = files.map(file -> file.getFileName().toString().replace(".java", ""))
                .filter(name -> name.endsWith("Test") && !readme.contains("`" + name + "`"))
                .sorted()
                .toList();
            unnamed.forEach(name -> System.out.println("README.md doesn't name " + name));
            return unnamed.size();
        }
    }
}
