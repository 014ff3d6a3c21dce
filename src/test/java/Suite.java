import java.lang.reflect.InvocationTargetException;
import java.lang.reflect.Method;
import java.lang.reflect.Modifier;
import java.util.ArrayList;
import java.util.Comparator;
import java.util.List;

/** Runs the tests of a class: its methods that bear a sentence of the document. */
final class Suite {
    private Suite() { }

    static void run(Class<?> tests) throws IllegalAccessException {
        List<Method> found = testsOf(tests);
        for (Method test : found) {
            Due.begin(nameOf(test));
            try {
                test.invoke(null);
            } catch (InvocationTargetException e) {
                Due.wrong("ended with " + e.getCause());
            }
        }
        System.out.println(found.size() + " tests");
        Due.end();
    }

    /** Private methods are the tests' helpers; any other one but main has to bear a sentence, so that none is forgotten. */
    static List<Method> testsOf(Class<?> tests) {
        List<Method> found = new ArrayList<>();
        for (Method method : tests.getDeclaredMethods()) {
            if (Modifier.isPrivate(method.getModifiers()) || method.getName().equals("main")) {
                continue;
            }
            if (method.getAnnotation(Says.class) == null) {
                Due.wrong(tests.getName() + "." + method.getName() + " bears no sentence of the document");
            } else {
                found.add(method);
            }
        }
        found.sort(Comparator.comparingInt((Method m) -> says(m).promise()).thenComparing(Method::getName));
        return found;
    }

    static Says says(Method test) {
        return test.getAnnotation(Says.class);
    }

    private static String nameOf(Method test) {
        int promise = says(test).promise();
        return (promise == 0 ? "Terms, " : "Promise " + promise + ", ") + test.getName()
                + " (\"" + says(test).text() + "\")";
    }
}
