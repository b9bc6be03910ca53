import java.io.IOException;
import java.lang.reflect.Constructor;
import java.lang.reflect.Executable;
import java.lang.reflect.Field;
import java.lang.reflect.Method;
import java.lang.reflect.Modifier;
import java.nio.file.Files;
import java.nio.file.Path;
import java.util.ArrayList;
import java.util.List;
import java.util.TreeSet;

/** The public face as the document tells it, and those rules of LANGUAGE.md that can be looked up. */
public final class FaceTest {
    private static final Path SOURCE = Path.of("src/main/java/SaywhatSeen.java");
    private static final Path DOCUMENT = Path.of("../shared/DOC.md");
    private static final String[] FORBIDDEN = {
        "->", "::", "finally", "synchronized", "assert ", "static {", "Exact(", "package ", "hashCode", "Random",
        "System.out", "System.err", "System.in", "System.nano", "System.current", "Thread", "getMessage",
        "ArrayIndexOutOfBounds", "NullPointer", "ClassCast", "NegativeArraySize", "ArrayStore"
    };

    public static void main(String[] args) throws IOException {
        face();
        members();
        for (Class<?> inside : SaywhatSeen.class.getDeclaredClasses()) {
            inside(inside);
        }
        Checks.due("classes inside, at most 12", SaywhatSeen.class.getDeclaredClasses().length <= 12, true);
        source();
        Checks.end();
    }

    private static String signature(Executable one) {
        StringBuilder text = new StringBuilder();
        text.append(one instanceof Method m ? m.getReturnType().getSimpleName() + " " + m.getName() : "new");
        for (Class<?> type : one.getParameterTypes()) {
            text.append(" ").append(type.getSimpleName());
        }
        for (Class<?> type : one.getExceptionTypes()) {
            text.append(" !").append(type.getSimpleName());
        }
        return text.toString();
    }

    /** The same form for a line of the document, such as "public int tick(int ticks) throws A, B;". */
    private static String signature(String line) {
        String[] halves = line.replace("public ", "").replace(";", "").trim().split("\\) ?(throws )?", 2);
        int open = halves[0].indexOf('(');
        String name = halves[0].substring(0, open);
        StringBuilder text = new StringBuilder(name.equals("SaywhatSeen") ? "new" : name);
        for (String parameter : halves[0].substring(open + 1).split(", ")) {
            text.append(parameter.isEmpty() ? "" : " " + parameter.split(" ")[0]);
        }
        for (String thrown : halves[1].split(", ")) {
            text.append(thrown.isEmpty() ? "" : " !" + thrown);
        }
        return text.toString();
    }

    private static void face() throws IOException {
        TreeSet<String> told = new TreeSet<>();
        for (String line : Files.readAllLines(DOCUMENT)) {
            if (line.startsWith("    public ")) {
                told.add(signature(line));
            }
        }
        TreeSet<String> there = new TreeSet<>();
        for (Method method : SaywhatSeen.class.getDeclaredMethods()) {
            if (Modifier.isPublic(method.getModifiers())) {
                there.add(signature(method));
            }
        }
        for (Constructor<?> constructor : SaywhatSeen.class.getDeclaredConstructors()) {
            there.add(signature(constructor));
        }
        Checks.due("the face", there, told);
        Checks.due("calls and the constructor", told.size(), 38);
    }

    private static void members() {
        int modifiers = SaywhatSeen.class.getModifiers();
        Checks.due("public and final", Modifier.isPublic(modifiers) && Modifier.isFinal(modifiers), true);
        for (Field field : SaywhatSeen.class.getDeclaredFields()) {
            Checks.due("private: " + field.getName(), Modifier.isPrivate(field.getModifiers()), true);
        }
        TreeSet<String> open = new TreeSet<>();
        for (Method method : SaywhatSeen.class.getDeclaredMethods()) {
            if (Modifier.isPublic(method.getModifiers())) {
                open.add(method.getName());
            }
        }
        for (Method method : SaywhatSeen.class.getDeclaredMethods()) {
            int is = method.getModifiers();
            boolean isHidden = Modifier.isPrivate(is) && !open.contains(method.getName());
            Checks.due("public or hidden: " + method.getName(), Modifier.isPublic(is) || isHidden, true);
        }
        common(SaywhatSeen.class);
    }

    private static void inside(Class<?> inside) {
        int modifiers = inside.getModifiers();
        boolean isOpen = Modifier.isPublic(modifiers) || Modifier.isProtected(modifiers);
        Checks.due("inside: " + inside.getName(), !isOpen && Modifier.isStatic(modifiers), true);
        common(inside);
    }

    private static void common(Class<?> one) {
        int own = 0;
        for (Field field : one.getDeclaredFields()) {
            int is = field.getModifiers();
            own += Modifier.isStatic(is) ? 0 : 1;
            Checks.due("no other static state: " + field, !Modifier.isStatic(is) || Modifier.isFinal(is), true);
        }
        Checks.due("some twenty fields: " + one.getName(), own <= 20, true);
        List<Executable> calls = new ArrayList<>(List.of(one.getDeclaredMethods()));
        calls.addAll(List.of(one.getDeclaredConstructors()));
        for (Executable call : calls) {
            Checks.due("at most seven parameters: " + call, call.getParameterCount() <= 7, true);
        }
    }

    private static void source() throws IOException {
        int together = 0;
        for (String line : Files.readAllLines(SOURCE)) {
            String code = line.strip();
            if (code.startsWith("*") || code.startsWith("/*") || code.startsWith("//")) {
                continue;
            }
            for (String word : FORBIDDEN) {
                Checks.due("no " + word + " in " + code, code.contains(word), false);
            }
            if (code.startsWith("import ")) {
                String name = code.substring(7, code.length() - 1);
                boolean isListed = List.of("java.util.ArrayList", "java.util.Arrays",
                        "java.util.NoSuchElementException").contains(name);
                Checks.due("listed: " + name, isListed, true);
            }
            Checks.due("signs of " + code, code.chars().allMatch(c -> c >= 1 && c <= 127), true);
            // A blank line parts two methods, and stands in none.
            together = code.isEmpty() ? 0 : together + 1;
            Checks.due("some sixty lines up to " + code, together <= 60, true);
        }
    }
}
