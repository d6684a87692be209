import java.lang.reflect.InvocationTargetException;
import java.lang.reflect.Method;
import java.lang.reflect.Modifier;
import java.util.ArrayList;
import java.util.Arrays;
import java.util.Comparator;
import java.util.List;

/** Long runs of calls, made up by a fixed rule, on the class and on the model of the document. */
final class ModelTests {
    private static final int RUNS = 1500;
    private static final int CALLS = 512;

    private ModelTests() {
    }

    /** Numbers by a rule, the same in each run of the tests. */
    private static final class Numbers {
        private long state;

        Numbers(long seed) {
            state = seed * 2 + 1;
        }

        int below(int bound) {
            state = state * 6364136223846793005L + 1442695040888963407L;
            return (int) ((state >>> 33) % bound);
        }

        int from(int least, int most) {
            return least + below(most - least + 1);
        }
    }

    private static final class Run {
        private final Numbers numbers;
        private final CourseEnrolment office = new CourseEnrolment();
        private final Model model = new Model();
        private final List<String> told = new ArrayList<>();
        private final int courses;
        private final int students;
        private final int mostSeats;
        private final int mostCredits;
        private final int hoursInUse;
        private final String[] favourites = new String[5];

        Run(long seed) {
            numbers = new Numbers(seed);
            courses = numbers.from(1, 20);
            students = numbers.from(1, 16);
            mostSeats = numbers.from(1, 4);
            mostCredits = numbers.from(1, numbers.from(1, 12));
            hoursInUse = numbers.from(0, 30);
            for (int i = 0; i < favourites.length; i++) {
                favourites[i] = OFTEN[numbers.below(OFTEN.length)];
            }
        }

        private int odd(int usual, int chance) {
            int[] odds = {-1, usual + 1, usual + 20, 20, 16, 17, 32, 64, Integer.MIN_VALUE,
                Integer.MAX_VALUE, 0};
            return numbers.below(chance) == 0 ? odds[numbers.below(odds.length)] : usual;
        }

        private int course() {
            return odd(numbers.below(Math.max(1, model.courses())), 60);
        }

        private int student() {
            return odd(numbers.below(Math.max(1, model.students())), 60);
        }

        /** Mostly a student and a course for which the call has something to do. */
        private Object[] pairFor(String name) {
            Object[] pair = {student(), course()};
            for (int i = 0; i < 40 && numbers.below(12) > 0 && !isOfUse(name, pair); i++) {
                pair = new Object[] {student(), course()};
            }
            return pair;
        }

        private boolean isOfUse(String name, Object[] pair) {
            try {
                int s = (Integer) pair[0];
                int c = (Integer) pair[1];
                switch (name) {
                    case "accept":
                    case "offerDays":
                        return model.offerDays(s, c) > 0;
                    case "leave":
                        return model.isWaiting(s, c);
                    case "drop":
                    case "putUp":
                    case "change":
                        return model.isEnrolled(s, c);
                    case "request":
                        return model.obstacle(s, c) == 0 && !model.isWaiting(s, c);
                    case "wish":
                        return model.obstacle(s, c) != 2 && model.someoneHasUp(c);
                    default:
                        return true;
                }
            } catch (IndexOutOfBoundsException none) {
                return numbers.below(6) == 0;
            }
        }

        private Object[] change() {
            Object[] pair = pairFor("change");
            return new Object[] {pair[0], pair[1], course()};
        }

        private int participant() {
            int s = student();
            for (int i = 0; i < 20 && numbers.below(8) > 0 && !model.isParticipant(s); i++) {
                s = student();
            }
            return s;
        }

        private int hours() {
            int hours = 0;
            for (int i = numbers.below(3); i > 0 && hoursInUse > 0; i--) {
                hours |= 1 << numbers.below(hoursInUse);
            }
            return hours;
        }

        private Object[] arguments(String name) {
            switch (name) {
                case "addCourse":
                    return new Object[] {odd(numbers.from(0, mostSeats), 30),
                        odd(numbers.from(1, mostCredits), 30), odd(hours(), 30)};
                case "setSeats":
                    return new Object[] {course(), odd(numbers.from(0, mostSeats), 20)};
                case "addPrerequisite":
                case "requires":
                    return new Object[] {course(), course()};
                case "addStudent":
                    return new Object[] {odd(numbers.below(4), 30), odd(numbers.from(1, 40), 30)};
                case "level":
                case "enrolled":
                case "freeSeats":
                case "waiting":
                    return new Object[] {course()};
                case "credits":
                case "wishes":
                case "lotteryNumber":
                    return new Object[] {student()};
                case "withdraw":
                case "placeUp":
                case "pointsTo":
                    return new Object[] {participant()};
                case "wishAt":
                    return new Object[] {student(), numbers.from(-1, 6)};
                case "waitingAt":
                    return new Object[] {course(), numbers.from(-1, 8)};
                case "change":
                    return change();
                case "advance":
                    return new Object[] {odd(numbers.from(1, 1 + numbers.below(7)), 20)};
                case "runLottery":
                    return new Object[] {numbers.below(9) == 0 ? -numbers.below(3)
                        : numbers.below(Integer.MAX_VALUE)};
                case "courses":
                case "students":
                case "day":
                case "runExchange":
                    return new Object[0];
                default:
                    return pairFor(name);
            }
        }

        private String call(Object target, String name, Object[] arguments) throws Exception {
            try {
                return "" + METHODS.stream().filter(m -> m.getName().equals(name)).findFirst()
                        .map(m -> methodOf(target, m)).get().invoke(target, arguments);
            } catch (InvocationTargetException thrown) {
                return thrown.getCause().getClass().getName();
            }
        }

        private void step(String name) throws Exception {
            Object[] arguments = arguments(name);
            String due = call(model, name, arguments);
            String got = call(office, name, arguments);
            told.add(name + Arrays.toString(arguments) + " " + got);
            if (!due.equals(got)) {
                throw new AssertionError("due is " + due + " at the end of " + told);
            }
        }

        void go() throws Exception {
            for (int i = 0; i < courses; i++) {
                step("addCourse");
            }
            for (int i = 0; i < students; i++) {
                step("addStudent");
            }
            for (int i = courses + students; i < CALLS; i++) {
                step(numbers.below(4) == 0 ? favourites[numbers.below(favourites.length)]
                        : OFTEN[numbers.below(OFTEN.length)]);
            }
        }
    }

    private static final List<Method> METHODS = new ArrayList<>();
    private static final List<Method> OF_MODEL = new ArrayList<>();
    private static final String[] BUSY = {
        "request", "request", "request", "request", "request", "wish", "wish", "wish", "wish",
        "wish", "accept", "accept", "accept", "drop", "putUp", "putUp", "putUp", "putUp",
        "putUp", "change", "change", "setSeats", "runExchange", "runExchange", "waitingAt",
        "wishAt", "obstacle", "obstacle", "offerDays", "pointsTo", "pointsTo"
    };
    private static final String[] OFTEN;

    static {
        List<String> names = new ArrayList<>();
        for (Method method : CourseEnrolment.class.getDeclaredMethods()) {
            if (Modifier.isPublic(method.getModifiers())) {
                METHODS.add(method);
                OF_MODEL.add(modelMethod(method));
                names.add(method.getName());
            }
        }
        names.addAll(names);
        names.addAll(names);
        names.removeAll(List.of("addCourse", "addStudent", "pass", "addPrerequisite",
                "runLottery", "advance"));
        names.addAll(List.of("pass", "addPrerequisite", "runLottery", "advance", "advance"));
        for (String often : BUSY) {
            names.addAll(List.of(often, often, often, often));
        }
        names.sort(Comparator.naturalOrder());
        OFTEN = names.toArray(new String[0]);
    }

    private static Method modelMethod(Method method) {
        try {
            return Model.class.getDeclaredMethod(method.getName(), method.getParameterTypes());
        } catch (NoSuchMethodException thrown) {
            throw new AssertionError(thrown);
        }
    }

    private static Method methodOf(Object target, Method method) {
        return target instanceof Model ? OF_MODEL.get(METHODS.indexOf(method)) : method;
    }

    static void longRunsAnswerAsTheModelDoes() throws Exception {
        for (int seed = 0; seed < RUNS; seed++) {
            new Run(seed).go();
        }
    }
}
