import java.lang.reflect.InvocationTargetException;
import java.lang.reflect.Method;
import java.lang.reflect.Modifier;
import java.util.ArrayList;
import java.util.Arrays;
import java.util.Comparator;
import java.util.List;

/** Runs every method of the test classes. */
public final class AllTests {
    /** The tests of the document's sentences; DocumentTests looks up that none is left out. */
    static final List<Class<?>> OF_SENTENCES = List.of(TermsTests.class, CourseTests.class,
            StudentTests.class, WishTests.class, EnrolTests.class, WaitingTests.class,
            LotteryTests.class, ExchangeTests.class);
    private static final List<Class<?>> OTHERS = List.of(FaceTests.class, LanguageTests.class,
            DocumentTests.class, ModelTests.class);

    private AllTests() {
    }

    public static void main(String[] args) {
        int passed = 0;
        int failed = 0;
        List<Class<?>> all = new ArrayList<>(OF_SENTENCES);
        all.addAll(OTHERS);
        for (Class<?> tests : all) {
            for (Method test : testsOf(tests)) {
                if (holds(test)) {
                    passed++;
                } else {
                    failed++;
                }
            }
        }
        System.out.println("own: " + passed + " passed, " + failed + " failed");
        if (failed > 0) {
            System.exit(1);
        }
    }

    static List<Method> testsOf(Class<?> tests) {
        List<Method> found = new ArrayList<>();
        for (Method method : tests.getDeclaredMethods()) {
            if (!Modifier.isPrivate(method.getModifiers()) && !method.isSynthetic()) {
                found.add(method);
            }
        }
        found.sort(Comparator.comparing(Method::getName));
        return found;
    }

    private static boolean holds(Method test) {
        try {
            test.invoke(null);
            return true;
        } catch (InvocationTargetException thrown) {
            Throwable cause = thrown.getCause();
            System.out.println("FAILED " + test.getDeclaringClass().getName() + "."
                    + test.getName() + ": " + cause);
            Arrays.stream(cause.getStackTrace()).limit(6)
                    .forEach(line -> System.out.println("    " + line));
            return false;
        } catch (IllegalAccessException thrown) {
            System.out.println("FAILED " + test + ": " + thrown);
            return false;
        }
    }
}
