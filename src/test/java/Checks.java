import java.lang.reflect.InvocationTargetException;
import java.lang.reflect.Method;
import java.lang.reflect.Modifier;
import java.util.Comparator;
import java.util.List;
import java.util.stream.Stream;

/** What the tests share: counting wrong answers, and ending with exit code 1 if there was one. */
final class Checks {
    private static int wrong;
    private static int made;
    private static String test = "";

    interface Call {
        Object answer();
    }

    private Checks() {
    }

    /** Runs each static method of a class that takes and returns nothing as a test of its own. */
    static void runAll(Class<?> tests) throws IllegalAccessException {
        List<Method> methods = Stream.of(tests.getDeclaredMethods())
                .filter(m -> Modifier.isStatic(m.getModifiers()) && !m.isSynthetic())
                .filter(m -> m.getParameterCount() == 0 && m.getReturnType() == void.class)
                .sorted(Comparator.comparing(Method::getName))
                .toList();
        for (Method method : methods) {
            run(method);
        }
        System.out.println(methods.size() + " tests");
        end();
    }

    private static void run(Method method) throws IllegalAccessException {
        test = method.getName() + ": ";
        int before = made;
        method.setAccessible(true);
        try {
            method.invoke(null);
        } catch (InvocationTargetException e) {
            due("the whole test", e.getCause().toString(), "no exception");
        }
        due("looks at something", made > before, true);
        test = "";
    }

    static void due(String call, Object got, Object want) {
        made++;
        if (!got.equals(want)) {
            wrong++;
            System.out.println(test + call + " answered " + got + ", due is " + want);
        }
    }

    static void fails(String call, Class<? extends RuntimeException> kind, Call made) {
        due(call, answerOf(made), "throws " + kind.getSimpleName());
    }

    /** What a call answers, or "throws " and the simple name of what it throws. */
    static Object answerOf(Call call) {
        try {
            return call.answer();
        } catch (RuntimeException e) {
            return "throws " + e.getClass().getSimpleName();
        }
    }

    static int wrong() {
        return wrong;
    }

    static void end() {
        System.out.println(made + " checks, " + wrong + " wrong");
        if (wrong != 0 || made == 0) {
            System.exit(1);
        }
    }
}
