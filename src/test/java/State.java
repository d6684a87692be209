import java.util.ArrayList;
import java.util.List;

/** All that an office tells about itself, and what becomes of it later, as one text. */
final class State {
    private record Question(String name, Office.Call call) {
    }

    /** What the office keeps but does not tell (bands, limits, credits, hours) shows in these. */
    private static final List<List<Office.Call>> LATER = List.of(
            List.of(),
            List.of(o -> o.runLottery(5), o -> o.runExchange()),
            List.of(o -> o.advance(3)));

    private State() {
    }

    /** Each office answers as few questions as the document promises answers for. */
    static String of(Office office) {
        StringBuilder text = new StringBuilder();
        List<Question> questions = questions(office.twin());
        for (List<Office.Call> later : LATER) {
            int room = Office.MOST_CALLS - office.callsMade() - later.size();
            if (room < 1) {
                throw new AssertionError("no call is left to ask what has changed");
            }
            for (int from = 0; from < questions.size(); from += room) {
                CourseEnrolment asked = office.twin();
                for (Office.Call call : later) {
                    call.on(asked);
                }
                int to = Math.min(questions.size(), from + room);
                for (Question question : questions.subList(from, to)) {
                    text.append(question.name).append(' ').append(answer(question, asked));
                    text.append('\n');
                }
            }
        }
        return text.toString();
    }

    private static String answer(Question question, CourseEnrolment asked) {
        try {
            return "" + question.call.on(asked);
        } catch (RuntimeException refused) {
            return refused.getClass().getName();
        }
    }

    private static List<Question> questions(CourseEnrolment twin) {
        int courses = twin.courses();
        int students = twin.students();
        List<Question> all = new ArrayList<>();
        all.add(new Question("day", o -> o.day()));
        all.add(new Question("courses", o -> o.courses()));
        all.add(new Question("students", o -> o.students()));
        for (int c = 0; c < courses; c++) {
            addOfCourse(all, c, courses, students);
        }
        for (int s = 0; s < students; s++) {
            addOfStudent(all, s);
            for (int c = 0; c < courses; c++) {
                addOfBoth(all, s, c);
            }
        }
        return all;
    }

    private static void addOfCourse(List<Question> all, int c, int courses, int students) {
        String of = " of course " + c + " ";
        all.add(new Question("level" + of, o -> o.level(c)));
        all.add(new Question("enrolled" + of, o -> o.enrolled(c)));
        all.add(new Question("free seats" + of, o -> o.freeSeats(c)));
        all.add(new Question("waiting" + of, o -> o.waiting(c)));
        for (int i = 0; i < courses; i++) {
            int other = i;
            all.add(new Question("required" + of + other, o -> o.requires(c, other) ? 1 : 0));
        }
        for (int i = 0; i < students; i++) {
            int place = i;
            all.add(new Question("waiting" + of + place, o -> o.waitingAt(c, place)));
        }
    }

    private static void addOfStudent(List<Question> all, int s) {
        String of = " of student " + s + " ";
        all.add(new Question("credits" + of, o -> o.credits(s)));
        all.add(new Question("lottery number" + of, o -> o.lotteryNumber(s)));
        all.add(new Question("place up" + of, o -> o.placeUp(s)));
        all.add(new Question("target" + of, o -> o.pointsTo(s)));
        all.add(new Question("wishes" + of, o -> o.wishes(s)));
        for (int i = 0; i < 6; i++) {
            int place = i;
            all.add(new Question("wish" + of + place, o -> o.wishAt(s, place)));
        }
    }

    private static void addOfBoth(List<Question> all, int s, int c) {
        String of = " of student " + s + ", course " + c + " ";
        all.add(new Question("passed" + of, o -> o.hasPassed(s, c) ? 1 : 0));
        all.add(new Question("enrolled" + of, o -> o.isEnrolled(s, c) ? 1 : 0));
        all.add(new Question("missing" + of, o -> o.missing(s, c)));
        all.add(new Question("obstacle" + of, o -> o.obstacle(s, c)));
        all.add(new Question("offer" + of, o -> o.offerDays(s, c)));
    }
}
