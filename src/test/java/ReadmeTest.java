import java.io.IOException;
import java.lang.reflect.Method;
import java.lang.reflect.Modifier;
import java.nio.file.DirectoryStream;
import java.nio.file.Files;
import java.nio.file.Path;
import java.util.ArrayList;
import java.util.Arrays;
import java.util.List;
import java.util.TreeMap;
import java.util.TreeSet;
import java.util.stream.Collectors;

/** README.md: its Java answers as it says there, its table holds the whole face, and it names each test. */
public final class ReadmeTest {
    private static final Path PAGE = Path.of("README.md");
    private static final Path TESTS = Path.of("src/test/java");

    public static void main(String[] args) throws IOException, ReflectiveOperationException {
        List<String> page = Files.readAllLines(PAGE);
        wrongAnswersShow();
        List<String> java = java(page);
        Checks.due("calls", ToldCalls.check("Readme", java) > 37, true);
        Checks.due("calls shown", shown(java), new TreeSet<>(thrown().keySet()));
        Checks.due("calls in the table", table(page), thrown());
        tests(String.join("\n", page));
        Checks.end();
    }

    /** The page is held by ToldCalls, so that must see what is told wrongly, or not at all. */
    private static void wrongAnswersShow() throws IOException, ReflectiveOperationException {
        List<ToldCalls.Row> rows = ToldCalls.rows("Wrong", List.of("SaywhatSeen seen = new SaywhatSeen();",
                "seen.sounds();  // = 1, which it does not answer", "seen.weight(); // throws NoSuchElementException: no",
                "seen.plan(); // throws IllegalStateException", "int ticks = seen.film(9); // = 600",
                "seen.film(ticks); // = 9"));
        Checks.due("wrong ones", rows, List.of(new ToldCalls.Row("seen.sounds()", "0", "1"),
                new ToldCalls.Row("seen.weight()", "throws IllegalStateException", "throws NoSuchElementException"),
                new ToldCalls.Row("seen.plan()", "0", "throws IllegalStateException"),
                new ToldCalls.Row("seen.film(9)", "600", "600"), new ToldCalls.Row("seen.film(ticks)", "9", "9")));
        for (String line : List.of("seen.sounds();", "seen.sounds(); // none", "return seen.sounds(); // = 0")) {
            Object answer = Checks.answerOf(() -> {
                try {
                    return ToldCalls.rows("Untold", List.of("SaywhatSeen seen = new SaywhatSeen();", line));
                } catch (IOException | ReflectiveOperationException e) {
                    return e;
                }
            });
            Checks.due("an answer is missing: " + line, answer, "throws IllegalStateException");
        }
    }

    /** The lines of all blocks of Java, which are one program. */
    private static List<String> java(List<String> page) {
        List<String> lines = new ArrayList<>();
        boolean isJava = false;
        for (String line : page) {
            if (line.startsWith("```")) {
                isJava = line.equals("```java");
            } else if (isJava) {
                lines.add(line);
            }
        }
        return lines;
    }

    private static TreeSet<String> shown(List<String> java) {
        return java.stream().filter(line -> line.contains("seen."))
                .map(line -> line.replaceFirst(".*?seen\\.(\\w+)\\(.*", "$1"))
                .collect(Collectors.toCollection(TreeSet::new));
    }

    /** For each call of the face how many parameters it has, and what it throws. */
    private static TreeMap<String, List<String>> thrown() {
        TreeMap<String, List<String>> thrown = new TreeMap<>();
        for (Method method : SaywhatSeen.class.getDeclaredMethods()) {
            if (Modifier.isPublic(method.getModifiers())) {
                List<String> row = new ArrayList<>(List.of("" + method.getParameterCount()));
                Arrays.stream(method.getExceptionTypes()).map(Class::getSimpleName).forEach(row::add);
                thrown.put(method.getName(), row);
            }
        }
        return thrown;
    }

    /** The same out of rows such as "| `film(ticks)` | sets .. | the ticks before | A, B |". */
    private static TreeMap<String, List<String>> table(List<String> page) {
        TreeMap<String, List<String>> table = new TreeMap<>();
        for (String line : page) {
            if (line.startsWith("| `")) {
                String[] cells = line.split(" ?\\| ?", -1);
                String call = cells[1].replace("`", "");
                String parameters = call.substring(call.indexOf('(') + 1, call.indexOf(')'));
                List<String> row = new ArrayList<>();
                row.add("" + (parameters.isEmpty() ? 0 : parameters.split(", ").length));
                row.addAll(cells[4].isEmpty() ? List.of() : List.of(cells[4].split(", ")));
                table.put(call.substring(0, call.indexOf('(')), row);
            }
        }
        return table;
    }

    private static void tests(String page) throws IOException {
        try (DirectoryStream<Path> files = Files.newDirectoryStream(TESTS, "*Test.java")) {
            for (Path file : files) {
                String name = file.getFileName().toString().replace(".java", "");
                Checks.due("names " + name, page.contains("`" + name + "`"), true);
            }
        }
    }
}
