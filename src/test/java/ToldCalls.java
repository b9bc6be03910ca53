import java.io.IOException;
import java.lang.reflect.InvocationTargetException;
import java.net.URL;
import java.net.URLClassLoader;
import java.nio.file.Files;
import java.nio.file.Path;
import java.util.List;
import java.util.regex.Matcher;
import java.util.regex.Pattern;
import javax.tools.JavaCompiler;
import javax.tools.ToolProvider;

/**
 * Java out of a text that tells behind each call what it answers, as in "seen.sounds();  // = 3", or what it
 * throws, as in "seen.weight();  // throws IllegalStateException". It is compiled and run as it stands there.
 */
final class ToldCalls {
    private static final Pattern TOLD = Pattern.compile("\\s*(?:(\\w+ )(\\w+) = )?(seen\\.\\w+\\(.*\\));\\s+// "
            + "(?:= (-?\\d+|true|false|'.')|throws (\\w+))(?:[ ,:].*)?");

    /** A call, with its answer, or "throws " and the name of what it throws, and what is told of that. */
    record Row(String call, String got, String want) {
    }

    private ToldCalls() {
    }

    /** The rows of all calls, in their order; an answer that is not told is an error. */
    static List<Row> rows(String name, List<String> lines) throws IOException, ReflectiveOperationException {
        StringBuilder body = new StringBuilder();
        for (String line : lines) {
            body.append(line.contains("seen.") ? told(line) : line).append("\n");
        }
        Path folder = Files.createTempDirectory("told");
        compile(folder, name, body.toString());
        try (URLClassLoader loader = new URLClassLoader(new URL[] {folder.toUri().toURL()})) {
            Class<?> made = loader.loadClass(name);
            made.getMethod("run").invoke(null);
            List<?> rows = (List<?>) made.getField("ROWS").get(null);
            return rows.stream().map(row -> (String[]) row).map(row -> new Row(row[0], row[1], row[2])).toList();
        } catch (InvocationTargetException e) {
            throw new IllegalStateException(name + " does not run through", e.getCause());
        }
    }

    /** Looks whether each call answers as is told, and returns how many calls there are. */
    static int check(String name, List<String> lines) throws IOException, ReflectiveOperationException {
        List<Row> rows = rows(name, lines);
        for (Row row : rows) {
            Checks.due(name + ": " + row.call(), row.got(), row.want());
        }
        return rows.size();
    }

    private static String told(String line) {
        Matcher parts = TOLD.matcher(line);
        if (!parts.matches()) {
            throw new IllegalStateException("what does it answer? " + line);
        }
        String call = parts.group(3);
        String text = "\"" + call.replace("\\", "\\\\").replace("\"", "\\\"") + "\"";
        if (parts.group(5) != null) {
            String want = "\"throws " + parts.group(5) + "\"";
            return "try { row(" + text + ", " + call + ", " + want + "); } catch (RuntimeException e) { row(" + text
                    + ", \"throws \" + e.getClass().getSimpleName(), " + want + "); }";
        }
        boolean isKept = parts.group(2) != null;
        String kept = isKept ? parts.group(1) + parts.group(2) + " = " + call + "; " : "";
        return kept + "row(" + text + ", " + (isKept ? parts.group(2) : call) + ", \""
                + parts.group(4).replace("'", "") + "\");";
    }

    private static void compile(Path folder, String name, String body) throws IOException {
        Path source = folder.resolve(name + ".java");
        Files.writeString(source, "public final class " + name + " {\n"
                + "public static final java.util.List<String[]> ROWS = new java.util.ArrayList<>();\n"
                + "private static void row(String call, Object got, String want) {\n"
                + "ROWS.add(new String[] {call, String.valueOf(got), want});\n}\n"
                + "public static void run() {\n" + body + "}\n}\n");
        JavaCompiler compiler = ToolProvider.getSystemJavaCompiler();
        if (compiler == null) {
            throw new IllegalStateException("the tests need the java of a JDK");
        }
        int code = compiler.run(null, null, null, "-encoding", "UTF-8", "-d", folder.toString(),
                "-cp", System.getProperty("java.class.path"), source.toString());
        if (code != 0) {
            throw new IllegalStateException(name + " does not compile");
        }
    }
}
