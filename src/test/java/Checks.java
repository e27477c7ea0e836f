import java.lang.reflect.InvocationTargetException;
import java.lang.reflect.Method;
import java.util.ArrayList;
import java.util.Comparator;
import java.util.List;

/** Counts the answers that are not as due, and tells each of them. */
final class Checks {
    private static int wrong = 0;
    private static int told = 0;
    private static String test = "";

    private Checks() {
    }

    static void due(String call, long got, long want) {
        told++;
        if (got != want) {
            wrong++;
            if (wrong <= 50) {
                System.out.println(test + call + " answered " + got + ", due is " + want);
            }
        }
    }

    static void holds(String what, boolean held) {
        due(what, held ? 1 : 0, 1);
    }

    static int wrong() {
        return wrong;
    }

    /** Runs each test of a class: its methods whose names begin with "promise"; one that throws is wrong. */
    static void runPromises(Class<?> tests) throws IllegalAccessException {
        List<Method> methods = new ArrayList<>();
        for (Method m : tests.getDeclaredMethods()) {
            if (m.getName().startsWith("promise")) {
                methods.add(m);
            }
        }
        methods.sort(Comparator.comparing(Method::getName));
        for (Method m : methods) {
            test = m.getName() + ": ";
            try {
                m.invoke(null);
            } catch (InvocationTargetException e) {
                holds("nothing is thrown, but " + e.getCause(), false);
            }
        }
        test = "";
        System.out.println(methods.size() + " tests");
    }

    /** Ends the program with exit code 1 if one answer was wrong. */
    static void end() {
        System.out.println(told + " answers, " + wrong + " of them not as due");
        if (wrong != 0) {
            System.exit(1);
        }
    }
}
