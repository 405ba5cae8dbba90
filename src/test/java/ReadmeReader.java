import java.io.IOException;
import java.nio.file.Files;
import java.nio.file.Path;
import java.util.List;
import java.util.regex.Matcher;
import java.util.regex.Pattern;

/**
 * Writes a test out of the Java examples of README.md, so that they compile and answer as README.md
 * says: "call; // answer: words" or "type name = call; // answer: words". A line of an example that
 * says no answer is refused, so that none goes untested.
 */
public final class ReadmeReader {
    private static final String TEST = "ReadmeTest";
    private static final String INDENT = "        ";
    private static final Pattern MAKING =
            Pattern.compile("ReadBarrierMachine \\w+ = new ReadBarrierMachine\\(.*\\);( +// .*)?");
    private static final Pattern ANSWERED = Pattern.compile(
            "(?:(?:int|boolean) (\\w+) = )?(\\w+\\.\\w+\\([-\\w, ]*\\)); +// (-?\\d+|true|false): \\S.*");

    private final StringBuilder methods = new StringBuilder();
    private final StringBuilder calls = new StringBuilder();
    private int examples;
    private int answers;
    private int wrong;

    private ReadmeReader() {
    }

    /** Takes the path of README.md and the directory that the test is written to. */
    public static void main(String[] args) throws IOException {
        ReadmeReader reader = new ReadmeReader();
        reader.read(Files.readAllLines(Path.of(args[0])));
        if (reader.answers == 0) {
            System.out.println("README.md has no example with an answer");
        }
        if (reader.answers == 0 || reader.wrong != 0) {
            System.exit(1);
        }
        Files.writeString(Path.of(args[1], TEST + ".java"), reader.test());
    }

    private void read(List<String> lines) {
        boolean isExample = false;
        for (int i = 0; i < lines.size(); i++) {
            String line = lines.get(i).strip();
            if (isExample && line.equals("```")) {
                isExample = false;
                methods.append("    }\n");
            } else if (isExample) {
                takeLine("README.md line " + (i + 1), line);
            } else if (line.equals("```java")) {
                isExample = true;
                examples++;
                calls.append(INDENT + "example" + examples + "();\n");
                methods.append("\n    private static void example" + examples + "() {\n");
            }
        }
        if (isExample) {
            refuse("README.md", "an example that does not end");
        }
    }

    private void takeLine(String where, String line) {
        Matcher answered = ANSWERED.matcher(line);
        if (answered.matches()) {
            takeAnswer(where, line, answered);
        } else if (line.isEmpty() || MAKING.matcher(line).matches()) {
            methods.append(INDENT + line + "\n");
        } else {
            refuse(where, line);
        }
    }

    private void takeAnswer(String where, String line, Matcher answered) {
        answers++;
        String name = answered.group(1);
        String call = answered.group(2);
        if (name != null) {
            methods.append(INDENT + line + "\n");
        }
        String text = "\"" + where + ", " + call + "\"";
        String got = name == null ? call : name;
        methods.append(INDENT + "CHECKS.due(" + text + ", " + got + ", " + answered.group(3) + ");\n");
    }

    private void refuse(String where, String line) {
        wrong++;
        System.out.println(where + " says no answer in the form \"call; // answer: words\": " + line);
    }

    private String test() {
        return "public final class " + TEST + " {\n"
                + "    private static final Checks CHECKS = new Checks();\n\n"
                + "    public static void main(String[] args) {\n"
                + INDENT + "CHECKS.about(\"the examples\");\n"
                + calls
                + INDENT + "CHECKS.end();\n"
                + "    }\n"
                + methods
                + "}\n";
    }
}
