import java.io.IOException;
import java.nio.file.Files;
import java.nio.file.Path;
import java.util.ArrayList;
import java.util.List;
import java.util.regex.Matcher;
import java.util.regex.Pattern;

/** What tests read of the texts that tell of the class: ../shared/DOC.md and README.md. */
final class Document {
    /** A method as the document's face declares it. */
    static final class Method {
        private static final Pattern FORM =
                Pattern.compile("public (int|boolean) (\\w+)\\(([^)]*)\\)(?: throws ([\\w, ]+))?;");

        final String answer, name;
        final List<String> types = new ArrayList<>(), parameters = new ArrayList<>();
        final List<String> exceptions;

        private Method(Matcher line) {
            this.answer = line.group(1);
            this.name = line.group(2);
            for (String parameter : parts(line.group(3))) {
                types.add(parameter.substring(0, parameter.indexOf(' ')));
                parameters.add(parameter.substring(parameter.indexOf(' ') + 1));
            }
            this.exceptions = parts(line.group(4));
        }

        private static List<String> parts(String text) {
            return text == null || text.isEmpty() ? List.of() : List.of(text.split(", "));
        }
    }

    private Document() {
    }

    /** The lines between ```java and ```, one row for each such part of a text. */
    static List<List<String>> codeOf(String file) throws IOException {
        List<List<String>> parts = new ArrayList<>();
        List<String> part = null;
        for (String line : Files.readAllLines(Path.of(file))) {
            if (line.equals("```java")) {
                part = new ArrayList<>();
            } else if (line.equals("```") && part != null) {
                parts.add(part);
                part = null;
            } else if (part != null) {
                part.add(line.trim());
            }
        }
        return parts;
    }

    /** The lines inside the class of the document's face. */
    static List<String> face() throws IOException {
        List<List<String>> parts = codeOf("../shared/DOC.md");
        if (parts.size() != 1 || !parts.get(0).get(0).equals("public final class Stowfinish {")) {
            throw new AssertionError("the document's face has another form");
        }
        List<String> lines = parts.get(0);
        return lines.subList(1, lines.size() - 1);
    }

    static List<Method> methods() throws IOException {
        List<Method> methods = new ArrayList<>();
        for (String line : face()) {
            Matcher method = Method.FORM.matcher(line);
            if (method.matches()) {
                methods.add(new Method(method));
            }
        }
        return methods;
    }
}
