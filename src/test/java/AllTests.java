import java.lang.reflect.InvocationTargetException;
import java.lang.reflect.Method;
import java.util.ArrayList;
import java.util.Arrays;
import java.util.Comparator;
import java.util.List;

/** Runs every method of the test classes; a name that begins with pNN is a test of promise NN. */
public final class AllTests {
    private static final Class<?>[] TESTS = {
        FaceTests.class, LanguageTests.class, CourseTests.class, StudentTests.class,
        WishTests.class, EnrolTests.class, WaitingTests.class, LotteryTests.class,
        ExchangeTests.class, ModelTests.class
    };
    private static final int PROMISES = 38;

    private AllTests() {
    }

    public static void main(String[] args) {
        int passed = 0;
        int failed = 0;
        boolean[] tested = new boolean[PROMISES + 1];
        for (Class<?> tests : TESTS) {
            for (Method test : testsOf(tests)) {
                mark(tested, test.getName());
                if (holds(test)) {
                    passed++;
                } else {
                    failed++;
                }
            }
        }
        for (int promise = 1; promise <= PROMISES; promise++) {
            if (!tested[promise]) {
                System.out.println("FAILED no test of promise " + promise);
                failed++;
            }
        }
        System.out.println("own: " + passed + " passed, " + failed + " failed");
        if (failed > 0) {
            System.exit(1);
        }
    }

    private static List<Method> testsOf(Class<?> tests) {
        List<Method> found = new ArrayList<>();
        for (Method method : tests.getDeclaredMethods()) {
            if (!java.lang.reflect.Modifier.isPrivate(method.getModifiers())
                    && !method.isSynthetic()) {
                found.add(method);
            }
        }
        found.sort(Comparator.comparing(Method::getName));
        return found;
    }

    private static void mark(boolean[] tested, String name) {
        if (name.matches("p\\d\\d.*")) {
            tested[Integer.parseInt(name.substring(1, 3))] = true;
        }
    }

    private static boolean holds(Method test) {
        try {
            test.invoke(null);
            return true;
        } catch (InvocationTargetException thrown) {
            Throwable cause = thrown.getCause();
            System.out.println("FAILED " + test.getDeclaringClass().getName() + "."
                    + test.getName() + ": " + cause);
            Arrays.stream(cause.getStackTrace()).limit(6)
                    .forEach(line -> System.out.println("    " + line));
            return false;
        } catch (IllegalAccessException thrown) {
            System.out.println("FAILED " + test + ": " + thrown);
            return false;
        }
    }
}
