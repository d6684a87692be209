import java.io.IOException;
import java.lang.reflect.Field;
import java.lang.reflect.Method;
import java.lang.reflect.Modifier;
import java.nio.file.Files;
import java.nio.file.Path;
import java.util.ArrayDeque;
import java.util.Deque;
import java.util.HashSet;
import java.util.Set;
import java.util.regex.Matcher;
import java.util.regex.Pattern;

/** The rules of LANGUAGE.md that can be looked up in the source or in the compiled class. */
final class LanguageTests {
    private static final Path SOURCE = Path.of("src/main/java/CourseEnrolment.java");
    private static final String[] OUT_OF_THE_LANGUAGE = {
        "import", "package", "finally", "synchronized", "assert", "catch", "try", "volatile",
        "native", "transient", "var", "equals", "hashCode", "toString", "System", "Object",
        "Thread", "Exact\\w*", "->", "::", "float", "double", "instanceof"
    };

    private LanguageTests() {
    }

    private record Block(int line, boolean isClass) {
    }

    static void noWordFromOutsideTheLanguage() throws IOException {
        String code = bareCode();
        for (String word : OUT_OF_THE_LANGUAGE) {
            String pattern = Character.isLetter(word.charAt(0)) ? "\\b" + word + "\\b" : word;
            Matcher found = Pattern.compile(pattern).matcher(code);
            Check.no("the code has " + word, found.find());
        }
    }

    static void exceptionsAreThoseOfTheDocument() throws IOException {
        Matcher thrown = Pattern.compile("throw\\s+(\\S+\\s+\\w+)").matcher(bareCode());
        int count = 0;
        while (thrown.find()) {
            count++;
            Check.yes(thrown.group(1), thrown.group(1).matches(
                    "new (IndexOutOfBounds|IllegalArgument|IllegalState)Exception"));
        }
        Check.yes("some are thrown", count > 0);
    }

    static void methodsAndLinesAreShort() throws IOException {
        int number = 0;
        Deque<Block> open = new ArrayDeque<>();
        String header = "";
        for (String line : bareCode().split("\n", -1)) {
            number++;
            Check.yes("no longer than 100 signs: line " + number, line.length() <= 100);
            for (char sign : line.toCharArray()) {
                if (sign == '{') {
                    open.push(new Block(number, header.matches(".*\\bclass\\b.*")));
                } else if (sign == '}') {
                    Block ended = open.pop();
                    boolean isMethod = !ended.isClass && open.peek().isClass;
                    Check.no("a method is longer than 60 lines: line " + number,
                            isMethod && number - ended.line >= 60);
                }
                header = sign == '{' || sign == '}' || sign == ';' ? "" : header + sign;
            }
        }
        Check.same("braces left open", 0, open.size());
    }

    static void noPrivateMethodBearsThePublicName() {
        Set<String> open = new HashSet<>();
        for (Method method : CourseEnrolment.class.getDeclaredMethods()) {
            if (Modifier.isPublic(method.getModifiers())) {
                open.add(method.getName());
            }
        }
        for (Class<?> each : allClasses()) {
            for (Method method : each.getDeclaredMethods()) {
                if (!Modifier.isPublic(method.getModifiers())) {
                    Check.no("a hidden " + method.getName(), open.contains(method.getName()));
                }
            }
        }
    }

    static void classesAreFewAndSmall() {
        Check.yes("at most twelve classes", allClasses().length <= 12);
        for (Class<?> each : allClasses()) {
            int fields = 0;
            for (Field field : each.getDeclaredFields()) {
                boolean fixed = Modifier.isStatic(field.getModifiers());
                Check.yes(field + " is no static state",
                        !fixed || Modifier.isFinal(field.getModifiers()));
                fields += fixed ? 0 : 1;
            }
            Check.yes("at most twenty fields in " + each, fields <= 20);
            for (Method method : each.getDeclaredMethods()) {
                Check.yes("at most seven parameters", method.getParameterCount() <= 7);
            }
        }
    }

    static void classesInsideAreStaticAndHidden() {
        for (Class<?> inner : CourseEnrolment.class.getDeclaredClasses()) {
            Check.yes(inner + " is static", Modifier.isStatic(inner.getModifiers()));
            Check.no(inner + " is public", Modifier.isPublic(inner.getModifiers()));
            Check.no(inner + " is protected", Modifier.isProtected(inner.getModifiers()));
        }
    }

    /** What a run makes is counted, so that no more than one constructor makes many things. */
    static void onlyConstructorsMakeObjects() throws IOException {
        Matcher made = Pattern.compile("(throw )?new (\\w+)").matcher(bareCode());
        Set<String> kinds = new HashSet<>();
        while (made.find()) {
            if (made.group(1) == null) {
                kinds.add(made.group(2));
            }
        }
        Check.equal("what is made", Set.of("Course", "Student", "Row", "int").stream().sorted()
                .toList().toString(), kinds.stream().sorted().toList().toString());
    }

    private static Class<?>[] allClasses() {
        Class<?>[] inner = CourseEnrolment.class.getDeclaredClasses();
        Class<?>[] all = new Class<?>[inner.length + 1];
        System.arraycopy(inner, 0, all, 0, inner.length);
        all[inner.length] = CourseEnrolment.class;
        return all;
    }

    private static int count(String line, char sign) {
        int count = 0;
        for (int i = 0; i < line.length(); i++) {
            if (line.charAt(i) == sign) {
                count++;
            }
        }
        return count;
    }

    /** The source with its comments and texts taken out, line by line. */
    private static String bareCode() throws IOException {
        String code = Files.readString(SOURCE);
        code = Pattern.compile("/\\*.*?\\*/", Pattern.DOTALL).matcher(code)
                .replaceAll(found -> "\n".repeat(count(found.group(), '\n')));
        return code.replaceAll("\"[^\"\n]*\"", "\"\"").replaceAll("//[^\n]*", "");
    }
}
