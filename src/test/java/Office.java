import java.util.ArrayList;
import java.util.List;

/**
 * An office under test, which keeps note of its calls. No test may ask more of one than the
 * document promises for; and what a call has changed is looked up in others made the same way.
 */
final class Office {
    static final int MOST_CALLS = 512;

    interface Call {
        long on(CourseEnrolment office);
    }

    private final CourseEnrolment office = new CourseEnrolment();
    private final List<Call> calls = new ArrayList<>();

    /** Courses of some seats, one credit and no hours; students of band 0 and limit 40. */
    static Office with(int courses, int seats, int students) {
        Office x = new Office();
        for (int c = 0; c < courses; c++) {
            x.addCourse(seats, 1, 0);
        }
        for (int s = 0; s < students; s++) {
            x.addStudent(0, 40);
        }
        return x;
    }

    private long note(Call call) {
        if (calls.size() >= MOST_CALLS) {
            throw new AssertionError("the test makes more calls than the document promises for");
        }
        calls.add(call);
        return call.on(office);
    }

    private int number(Call call) {
        return (int) note(call);
    }

    int callsMade() {
        return calls.size();
    }

    /** A new office after the same calls. */
    CourseEnrolment twin() {
        CourseEnrolment twin = new CourseEnrolment();
        for (Call call : calls) {
            try {
                call.on(twin);
            } catch (RuntimeException refusedHereToo) {
                continue;
            }
        }
        return twin;
    }

    int addCourse(int seats, int credits, int hours) {
        return number(o -> o.addCourse(seats, credits, hours));
    }

    int setSeats(int course, int seats) {
        return number(o -> o.setSeats(course, seats));
    }

    int addPrerequisite(int course, int required) {
        return number(o -> o.addPrerequisite(course, required));
    }

    boolean requires(int course, int other) {
        return note(o -> o.requires(course, other) ? 1 : 0) == 1;
    }

    int level(int course) {
        return number(o -> o.level(course));
    }

    int courses() {
        return number(o -> o.courses());
    }

    int enrolled(int course) {
        return number(o -> o.enrolled(course));
    }

    int freeSeats(int course) {
        return number(o -> o.freeSeats(course));
    }

    int addStudent(int band, int limit) {
        return number(o -> o.addStudent(band, limit));
    }

    int pass(int student, int course) {
        return number(o -> o.pass(student, course));
    }

    int students() {
        return number(o -> o.students());
    }

    boolean hasPassed(int student, int course) {
        return note(o -> o.hasPassed(student, course) ? 1 : 0) == 1;
    }

    boolean isEnrolled(int student, int course) {
        return note(o -> o.isEnrolled(student, course) ? 1 : 0) == 1;
    }

    int credits(int student) {
        return number(o -> o.credits(student));
    }

    int missing(int student, int course) {
        return number(o -> o.missing(student, course));
    }

    int obstacle(int student, int course) {
        return number(o -> o.obstacle(student, course));
    }

    int wish(int student, int course) {
        return number(o -> o.wish(student, course));
    }

    int dropWish(int student, int course) {
        return number(o -> o.dropWish(student, course));
    }

    int wishes(int student) {
        return number(o -> o.wishes(student));
    }

    int wishAt(int student, int place) {
        return number(o -> o.wishAt(student, place));
    }

    int request(int student, int course) {
        return number(o -> o.request(student, course));
    }

    int drop(int student, int course) {
        return number(o -> o.drop(student, course));
    }

    int change(int student, int from, int to) {
        return number(o -> o.change(student, from, to));
    }

    int accept(int student, int course) {
        return number(o -> o.accept(student, course));
    }

    boolean leave(int student, int course) {
        return note(o -> o.leave(student, course) ? 1 : 0) == 1;
    }

    int advance(int days) {
        return number(o -> o.advance(days));
    }

    int day() {
        return number(o -> o.day());
    }

    int waiting(int course) {
        return number(o -> o.waiting(course));
    }

    int waitingAt(int course, int place) {
        return number(o -> o.waitingAt(course, place));
    }

    int offerDays(int student, int course) {
        return number(o -> o.offerDays(student, course));
    }

    int runLottery(int seed) {
        return number(o -> o.runLottery(seed));
    }

    int lotteryNumber(int student) {
        return number(o -> o.lotteryNumber(student));
    }

    int putUp(int student, int course) {
        return number(o -> o.putUp(student, course));
    }

    int withdraw(int student) {
        return number(o -> o.withdraw(student));
    }

    int placeUp(int student) {
        return number(o -> o.placeUp(student));
    }

    int pointsTo(int student) {
        return number(o -> o.pointsTo(student));
    }

    int runExchange() {
        return number(o -> o.runExchange());
    }
}
