import java.io.IOException;
import java.nio.file.Files;
import java.nio.file.Path;
import java.util.ArrayList;
import java.util.List;
import java.util.regex.Matcher;
import java.util.regex.Pattern;

/** README.md: each line of its examples answers as it says, and each call of the face stands in its tables. */
public final class ReadmeTest {
    private static final Checks CHECKS = new Checks();
    private static final String README = "README.md", MADE = "Stowfinish yard = new Stowfinish();";
    /** A call and what it answers, with more words behind a colon, if any. */
    private static final Pattern LINE =
            Pattern.compile("yard\\.(\\w+\\([^()]*\\)); +// (throws \\w+|-?\\d+|true|false)(?:: .+)?");
    /** A row of a table: the call, what it does, and by what it is refused. */
    private static final Pattern ROW = Pattern.compile("\\| `(\\w+\\([^()]*\\))` \\| .+ \\| ([^|]*) \\|");

    public static void main(String[] args) throws IOException {
        int number = 0;
        for (List<String> example : Document.codeOf(README)) {
            number++;
            answersAsItSays("README.md, example " + number, example);
        }
        CHECKS.holds("README.md shows an example", number > 0);
        callsAreTold();
        CHECKS.end();
    }

    private static void answersAsItSays(String name, List<String> example) {
        CHECKS.due(name + ", its first line", example.isEmpty() ? "" : example.get(0), MADE);
        Edge yard = new Edge(CHECKS, name);
        for (String text : example.subList(Math.min(1, example.size()), example.size())) {
            Matcher line = LINE.matcher(text);
            boolean isCall = line.matches();
            CHECKS.holds(name + ", a call and its answer: " + text, isCall);
            if (isCall) {
                yard.calls(line.group(1) + " " + line.group(2));
            }
        }
    }

    private static void callsAreTold() throws IOException {
        List<String> due = new ArrayList<>();
        for (Document.Method method : Document.methods()) {
            due.add(method.name + "(" + String.join(", ", method.parameters) + "): " + refusals(method.exceptions));
        }
        List<String> got = new ArrayList<>();
        for (String line : Files.readAllLines(Path.of(README))) {
            Matcher row = ROW.matcher(line);
            if (row.matches()) {
                got.add(row.group(1) + ": " + row.group(2));
            }
        }
        CHECKS.due("the calls in README.md's tables", String.join("\n", got), String.join("\n", due));
    }

    /** As README.md names the exceptions: index, argument, state. */
    private static String refusals(List<String> exceptions) {
        List<String> names = new ArrayList<>();
        for (String exception : exceptions) {
            switch (exception) {
                case "IndexOutOfBoundsException": names.add("index"); break;
                case "IllegalArgumentException": names.add("argument"); break;
                case "IllegalStateException": names.add("state"); break;
                default: throw new AssertionError("README.md has no name for " + exception);
            }
        }
        return names.isEmpty() ? "never" : String.join(", ", names);
    }
}
