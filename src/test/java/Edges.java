import java.lang.reflect.InvocationTargetException;
import java.lang.reflect.Method;
import java.util.ArrayList;
import java.util.Comparator;
import java.util.List;

/** Runs the tests of a class that each hold one sentence of the document, and tells faults with that sentence. */
final class Edges {
    /** SentencesTest looks whether these leave a sentence out. */
    static final List<Class<?>> ALL = List.of(Terms1EdgesTest.class, SetUpEdgesTest.class, Terms2EdgesTest.class, Terms3EdgesTest.class,
        Promises1To9EdgesTest.class, Promises10To19EdgesTest.class, Promises20To27EdgesTest.class, Promises28To35EdgesTest.class,
        ChangesNothingTest.class);

    static final int LEAST = Integer.MIN_VALUE, MOST = Integer.MAX_VALUE;
    static final long NO = Long.MIN_VALUE;

    private Edges() {
    }

    static List<Method> testsOf(Class<?> owner) {
        List<Method> tests = new ArrayList<>();
        for (Method method : owner.getDeclaredMethods()) {
            if (method.isAnnotationPresent(Says.class)) tests.add(method);
        }
        tests.sort(Comparator.comparing(Method::getName));
        return tests;
    }

    static void run(Class<?> owner) {
        Due due = new Due(owner.getSimpleName());
        for (Method test : testsOf(owner)) {
            Says says = test.getAnnotation(Says.class);
            due.begin(test.getName() + " (" + says.in() + ": \"" + says.words() + "\")");
            call(test, due);
        }
        due.end();
    }

    private static void call(Method test, Due due) {
        try {
            test.invoke(null, due);
        } catch (IllegalAccessException | InvocationTargetException e) {
            throw new IllegalStateException(test.getName(), e);
        }
    }
}
