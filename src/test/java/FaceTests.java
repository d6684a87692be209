import java.lang.reflect.Constructor;
import java.lang.reflect.Field;
import java.lang.reflect.Member;
import java.lang.reflect.Method;
import java.lang.reflect.Modifier;
import java.util.Arrays;
import java.util.Set;
import java.util.TreeSet;

/** The face of the class: what the document lists, and nothing else that is not private. */
final class FaceTests {
    private static final String I = "IndexOutOfBoundsException";
    private static final String A = "IllegalArgumentException";
    private static final String S = "IllegalStateException";

    private static final String[] METHODS = {
        "int addCourse(int,int,int) " + A + " " + S,
        "int setSeats(int,int) " + I + " " + A + " " + S,
        "int addPrerequisite(int,int) " + I + " " + S,
        "boolean requires(int,int) " + I,
        "int level(int) " + I,
        "int courses()",
        "int enrolled(int) " + I,
        "int freeSeats(int) " + I,
        "int addStudent(int,int) " + A + " " + S,
        "int pass(int,int) " + I + " " + S,
        "int students()",
        "boolean hasPassed(int,int) " + I,
        "boolean isEnrolled(int,int) " + I,
        "int credits(int) " + I,
        "int missing(int,int) " + I,
        "int obstacle(int,int) " + I,
        "int wish(int,int) " + I + " " + S,
        "int dropWish(int,int) " + I + " " + S,
        "int wishes(int) " + I,
        "int wishAt(int,int) " + I,
        "int request(int,int) " + I + " " + S,
        "int drop(int,int) " + I + " " + S,
        "int change(int,int,int) " + I + " " + S,
        "int accept(int,int) " + I + " " + S,
        "boolean leave(int,int) " + I + " " + S,
        "int advance(int) " + A,
        "int day()",
        "int waiting(int) " + I,
        "int waitingAt(int,int) " + I,
        "int offerDays(int,int) " + I,
        "int runLottery(int) " + A,
        "int lotteryNumber(int) " + I,
        "int putUp(int,int) " + I + " " + S,
        "int withdraw(int) " + I,
        "int placeUp(int) " + I,
        "int pointsTo(int) " + I + " " + S,
        "int runExchange()",
    };

    private FaceTests() {
    }

    static void theClassIsPublicAndFinal() {
        int modifiers = CourseEnrolment.class.getModifiers();
        Check.yes("public", Modifier.isPublic(modifiers));
        Check.yes("final", Modifier.isFinal(modifiers));
        Check.yes("no package", CourseEnrolment.class.getPackageName().isEmpty());
        Check.same("interfaces", 0, CourseEnrolment.class.getInterfaces().length);
        Check.equal("above it", "class java.lang.Object",
                CourseEnrolment.class.getSuperclass().toString());
    }

    static void theConstantsHaveTheirValues() {
        Check.same("NONE", -1, CourseEnrolment.NONE);
        Check.same("NO_OBSTACLE", 0, CourseEnrolment.NO_OBSTACLE);
        Check.same("PASSED", 1, CourseEnrolment.PASSED);
        Check.same("ENROLLED", 2, CourseEnrolment.ENROLLED);
        Check.same("PREREQUISITE", 3, CourseEnrolment.PREREQUISITE);
        Check.same("CREDITS", 4, CourseEnrolment.CREDITS);
        Check.same("CLASH", 5, CourseEnrolment.CLASH);
    }

    static void theOpenFieldsAreTheConstants() {
        Set<String> due = new TreeSet<>(Arrays.asList("NONE", "NO_OBSTACLE", "PASSED",
                "ENROLLED", "PREREQUISITE", "CREDITS", "CLASH"));
        Set<String> found = new TreeSet<>();
        for (Field field : CourseEnrolment.class.getDeclaredFields()) {
            if (!isPrivate(field)) {
                found.add(field.getName());
                Check.equal(field.getName(), "public static final",
                        Modifier.toString(field.getModifiers()));
                Check.equal(field.getName(), "int", field.getType().getName());
            }
        }
        Check.equal("constants", due.toString(), found.toString());
    }

    static void theOpenMethodsAreThoseOfTheDocument() {
        Set<String> found = new TreeSet<>();
        for (Method method : CourseEnrolment.class.getDeclaredMethods()) {
            if (!isPrivate(method)) {
                found.add(textOf(method));
                Check.equal(method.getName(), "public",
                        Modifier.toString(method.getModifiers()));
            }
        }
        Check.same("methods", 37, METHODS.length);
        Check.equal("methods", new TreeSet<>(Arrays.asList(METHODS)).toString(),
                found.toString());
    }

    static void theOpenConstructorTakesNothing() {
        Constructor<?>[] all = CourseEnrolment.class.getDeclaredConstructors();
        Check.same("constructors", 1, all.length);
        Check.equal("constructor", "public CourseEnrolment()", all[0].toString());
    }

    private static boolean isPrivate(Member member) {
        return Modifier.isPrivate(member.getModifiers()) || member.isSynthetic();
    }

    private static String textOf(Method method) {
        StringBuilder text = new StringBuilder();
        text.append(method.getReturnType().getName()).append(' ').append(method.getName());
        text.append('(');
        for (int p = 0; p < method.getParameterCount(); p++) {
            text.append(p == 0 ? "" : ",").append(method.getParameterTypes()[p].getName());
        }
        text.append(')');
        for (Class<?> thrown : method.getExceptionTypes()) {
            text.append(' ').append(thrown.getSimpleName());
        }
        return text.toString();
    }
}
