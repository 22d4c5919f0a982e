import java.lang.reflect.InvocationTargetException;
import java.lang.reflect.Method;
import java.util.Arrays;
import java.util.Comparator;

/** Runs the tests of a class that stand for a sentence each, and tells which sentence is broken. */
final class Sentences {
    private Sentences() {
    }

    static void run(Class<?> tests) throws IllegalAccessException {
        Method[] all = tests.getDeclaredMethods();
        Arrays.sort(all, Comparator.comparing(Method::getName));
        for (Method test : all) {
            Says says = test.getAnnotation(Says.class);
            if (says != null) {
                runOne(test, says);
            }
        }
        Check.end(tests.getName());
    }

    private static void runOne(Method test, Says says) throws IllegalAccessException {
        int asked = Check.asked();
        int wrong = Check.wrong();
        try {
            test.invoke(null);
        } catch (InvocationTargetException e) {
            Check.due(test.getName() + " threw " + e.getCause(), 1, 0);
        }
        Check.due(test.getName() + " asks nothing", Check.asked() == asked, false);
        if (Check.wrong() > wrong) {
            System.out.println("BROKEN " + test.getDeclaringClass().getName() + "." + test.getName() + " "
                + says.at() + ": " + says.value());
        }
    }
}
