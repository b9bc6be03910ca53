import java.io.IOException;
import java.nio.file.Files;
import java.nio.file.Path;
import java.util.ArrayList;
import java.util.List;

/** The examples of the document, call by call, each call with the result that stands behind it there. */
public final class ExamplesTest {
    private static final Path DOCUMENT = Path.of("../shared/DOC.md");

    public static void main(String[] args) throws IOException, ReflectiveOperationException {
        List<List<String>> examples = examples();
        List<Integer> calls = new ArrayList<>();
        for (int i = 0; i < examples.size(); i++) {
            calls.add(ToldCalls.check("Example" + (i + 1), examples.get(i)));
        }
        Checks.due("the calls of each example", calls, List.of(7, 8, 6, 7));
        Checks.end();
    }

    /** "Examples: each one begins with a new object; behind each call and = stands its result." */
    private static List<List<String>> examples() throws IOException {
        List<List<String>> examples = new ArrayList<>();
        String[] parts = part("Examples:", "Ahead of the calls").split(" - ");
        for (int i = 1; i < parts.length; i++) {
            examples.add(lines(parts[i]));
        }
        return examples;
    }

    /** The document between two words, in one line, without the marks of blocks. */
    private static String part(String from, String to) throws IOException {
        String whole = Files.readString(DOCUMENT);
        int start = whole.indexOf(from);
        String part = whole.substring(start, whole.indexOf(to, start));
        return part.replaceAll("```(text)?", " ").replaceAll("\\s+", " ").trim();
    }

    /** An example such as "A sound: sound('s', 0, 30) = 1; plan() = 0." as lines of Java. */
    private static List<String> lines(String example) {
        List<String> lines = new ArrayList<>();
        lines.add("SaywhatSeen seen = new SaywhatSeen();");
        String calls = example.substring(example.indexOf(": ") + 2).trim();
        Checks.due("a full stop behind " + calls, calls.endsWith("."), true);
        for (String call : calls.substring(0, calls.length() - 1).split("; ")) {
            lines.add("seen." + call.replaceFirst("\\) = ", "); // = "));
        }
        return lines;
    }
}
