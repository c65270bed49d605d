import java.lang.reflect.InvocationTargetException;
import java.lang.reflect.Method;
import java.util.Arrays;
import java.util.Comparator;
import java.util.TreeSet;

/**
 * One test for each sentence of the document that names a boundary case. Each is a method of one of the
 * classes below whose name begins with its promise, as in promise2CountBelow1.
 */
public final class EdgesTest {
    private static final int PROMISES = 23;
    private static final Class<?>[] PARTS = {MelodyEdges.class, HouseEdges.class, ViewEdges.class, RefusedEdges.class};

    private static final Due due = new Due();

    public static void main(String[] args) throws IllegalAccessException {
        int[] testsOf = new int[PROMISES + 1];
        for (Class<?> part : PARTS) {
            for (Method test : testsIn(part)) {
                run(test);
                testsOf[promiseOf(test)]++;
            }
        }
        due.begin("EdgesTest");
        for (int promise = 1; promise <= PROMISES; promise++) {
            int tests = testsOf[promise];
            due.tells("the promise " + promise + " has a test", true, () -> tests > 0);
        }
        System.out.println(Arrays.stream(testsOf).sum() + " tests, by promise "
            + Arrays.toString(Arrays.copyOfRange(testsOf, 1, PROMISES + 1)));
        due.end();
    }

    private static TreeSet<Method> testsIn(Class<?> part) {
        TreeSet<Method> tests = new TreeSet<>(Comparator.comparingInt(EdgesTest::promiseOf).thenComparing(Method::getName));
        for (Method method : part.getDeclaredMethods()) {
            if (method.getName().startsWith("promise")) {
                tests.add(method);
            }
        }
        return tests;
    }

    private static int promiseOf(Method test) {
        return Integer.parseInt(test.getName().replaceAll("promise([0-9]+).*", "$1"));
    }

    private static void run(Method test) throws IllegalAccessException {
        due.begin(test.getName());
        try {
            test.invoke(null, due);
        } catch (InvocationTargetException thrown) {
            due.compare("the test itself", "no exception", String.valueOf(thrown.getCause()));
        }
    }
}
