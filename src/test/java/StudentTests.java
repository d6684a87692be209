/** Promises 10 to 17: students. */
final class StudentTests {
    private static final int LOW = Integer.MIN_VALUE;
    private static final int HIGH = Integer.MAX_VALUE;
    private static final int[] NO_STUDENTS = {-1, 2, 16, LOW, HIGH};
    private static final int[] NO_COURSES = {-1, 3, 20, 32, LOW, HIGH};

    private StudentTests() {
    }

    /** Three courses of 2 seats, 4 credits and an hour each, two students of limit 10. */
    private static CourseEnrolment office() {
        CourseEnrolment x = new CourseEnrolment();
        for (int c = 0; c < 3; c++) {
            x.addCourse(2, 4, 1 << c);
        }
        x.addStudent(0, 10);
        x.addStudent(3, 10);
        return x;
    }

    private interface Asking {
        void ask(int student, int course);
    }

    private static void refusesUnknown(CourseEnrolment x, Asking asking) {
        for (int s : NO_STUDENTS) {
            Check.noSuch(x, () -> asking.ask(s, 0));
            Check.noSuch(x, () -> asking.ask(s, 99));
        }
        for (int c : NO_COURSES) {
            Check.noSuch(x, () -> asking.ask(0, c));
        }
    }

    static void p10_numbersFrom0InTheOrder() {
        CourseEnrolment x = new CourseEnrolment();
        Check.same("first", 0, x.addStudent(3, 1));
        Check.same("second", 1, x.addStudent(0, 40));
        Check.same("students", 2, x.students());
        x.addCourse(1, 1, 0);
        Check.no("passed nothing", x.hasPassed(1, 0));
        Check.same("credits", 0, x.credits(1));
        Check.same("wishes", 0, x.wishes(1));
        Check.same("lottery", CourseEnrolment.NONE, x.lotteryNumber(1));
        Check.same("place up", CourseEnrolment.NONE, x.placeUp(1));
    }

    static void p10_theLimitIsThatGiven() {
        CourseEnrolment x = new CourseEnrolment();
        x.addCourse(5, 1, 0);
        x.addCourse(5, 2, 0);
        x.addStudent(0, 1);
        Check.same("1 of 1", CourseEnrolment.NO_OBSTACLE, x.obstacle(0, 0));
        Check.same("2 of 1", CourseEnrolment.CREDITS, x.obstacle(0, 1));
    }

    static void p10_argumentsOutOfRange() {
        CourseEnrolment x = office();
        for (int band : new int[] {-1, 4, LOW, HIGH}) {
            Check.badArgument(x, () -> x.addStudent(band, 10));
        }
        for (int limit : new int[] {0, 41, -1, LOW, HIGH}) {
            Check.badArgument(x, () -> x.addStudent(0, limit));
        }
        Check.same("next", 2, x.addStudent(0, 40));
    }

    static void p10_atMost16Students() {
        CourseEnrolment x = new CourseEnrolment();
        for (int s = 0; s < 16; s++) {
            Check.same("number", s, x.addStudent(s % 4, 1 + s));
        }
        Check.badState(x, () -> x.addStudent(0, 1));
        Check.badArgument(x, () -> x.addStudent(4, 1));
        Check.badArgument(x, () -> x.addStudent(0, 0));
        Check.same("students", 16, x.students());
    }

    static void p11_returnsHowManyArePassed() {
        CourseEnrolment x = office();
        x.addPrerequisite(2, 1);
        Check.same("whatever it requires", 1, x.pass(0, 2));
        Check.same("two", 2, x.pass(0, 0));
        Check.same("other student", 1, x.pass(1, 2));
        Check.yes("passed", x.hasPassed(0, 2));
        Check.no("not what it requires", x.hasPassed(0, 1));
    }

    static void p11_takesTheCourseOutOfTheWishes() {
        CourseEnrolment x = office();
        x.wish(0, 2);
        x.wish(0, 0);
        x.wish(0, 1);
        x.wish(1, 0);
        x.pass(0, 0);
        Check.same("wishes", 2, x.wishes(0));
        Check.same("first", 2, x.wishAt(0, 0));
        Check.same("second", 1, x.wishAt(0, 1));
        Check.same("of the other student", 1, x.wishes(1));
    }

    static void p11_leavesTheWaitingListAndEndsTheOffer() {
        CourseEnrolment x = new CourseEnrolment();
        x.addCourse(0, 1, 0);
        for (int s = 0; s < 3; s++) {
            x.addStudent(0, 9);
            x.request(s, 0);
        }
        x.pass(1, 0);
        Check.same("waiting", 2, x.waiting(0));
        Check.same("second", 2, x.waitingAt(0, 1));
        x.setSeats(0, 1);
        Check.same("offer", 3, x.offerDays(0, 0));
        x.pass(0, 0);
        Check.same("no offer", 0, x.offerDays(0, 0));
        Check.same("waiting", 1, x.waiting(0));
        Check.same("the next one has the offer", 3, x.offerDays(2, 0));
    }

    static void p11_newOffersWhereAPrerequisiteWasMissing() {
        CourseEnrolment x = new CourseEnrolment();
        x.addCourse(0, 1, 0);
        x.addCourse(0, 1, 0);
        x.addStudent(0, 9);
        x.request(0, 0);
        x.addPrerequisite(0, 1);
        x.setSeats(0, 1);
        Check.same("no offer yet", 0, x.offerDays(0, 0));
        x.pass(0, 1);
        Check.same("an offer", 3, x.offerDays(0, 0));
    }

    static void p11_onceAndNotWhenEnrolled() {
        CourseEnrolment x = office();
        x.pass(0, 0);
        Check.badState(x, () -> x.pass(0, 0));
        x.request(0, 1);
        Check.badState(x, () -> x.pass(0, 1));
        x.drop(0, 1);
        Check.same("after the drop", 2, x.pass(0, 1));
        refusesUnknown(x, x::pass);
    }

    static void p12_countsTheStudents() {
        CourseEnrolment x = new CourseEnrolment();
        for (int s = 0; s < 16; s++) {
            Check.same("students", s, x.students());
            x.addStudent(0, 1);
        }
        Check.same("students", 16, x.students());
    }

    static void p13_tellsWhatIsPassed() {
        CourseEnrolment x = office();
        Check.no("nothing", x.hasPassed(0, 0));
        x.pass(0, 0);
        Check.yes("passed", x.hasPassed(0, 0));
        Check.no("another course", x.hasPassed(0, 1));
        Check.no("another student", x.hasPassed(1, 0));
        x.request(0, 1);
        Check.no("enrolled", x.hasPassed(0, 1));
        refusesUnknown(x, x::hasPassed);
    }

    static void p14_tellsWhereOneIsEnrolled() {
        CourseEnrolment x = office();
        Check.no("nowhere", x.isEnrolled(0, 1));
        x.request(0, 1);
        Check.yes("enrolled", x.isEnrolled(0, 1));
        Check.no("another course", x.isEnrolled(0, 0));
        Check.no("another student", x.isEnrolled(1, 1));
        x.pass(0, 0);
        Check.no("passed", x.isEnrolled(0, 0));
        x.setSeats(2, 0);
        x.request(0, 2);
        Check.no("waiting", x.isEnrolled(0, 2));
        x.setSeats(2, 1);
        Check.no("offered", x.isEnrolled(0, 2));
        x.drop(0, 1);
        Check.no("dropped", x.isEnrolled(0, 1));
        refusesUnknown(x, x::isEnrolled);
    }

    static void p15_addsUpTheCreditsOfEnrolments() {
        CourseEnrolment x = new CourseEnrolment();
        x.addCourse(1, 3, 1);
        x.addCourse(1, 12, 2);
        x.addCourse(0, 5, 4);
        x.addStudent(0, 40);
        x.addStudent(0, 40);
        Check.same("none", 0, x.credits(0));
        x.request(0, 0);
        x.request(0, 1);
        Check.same("both", 15, x.credits(0));
        x.request(0, 2);
        Check.same("waiting does not count", 15, x.credits(0));
        x.setSeats(2, 1);
        Check.same("an offer does not count", 15, x.credits(0));
        x.drop(0, 0);
        Check.same("one left", 12, x.credits(0));
        x.pass(0, 0);
        Check.same("passed does not count", 12, x.credits(0));
        Check.same("other student", 0, x.credits(1));
        for (int s : NO_STUDENTS) {
            Check.noSuch(x, () -> x.credits(s));
        }
    }

    static void p16_countsAllThatIsRequired() {
        CourseEnrolment x = new CourseEnrolment();
        for (int c = 0; c < 5; c++) {
            x.addCourse(1, 1, 0);
        }
        x.addStudent(0, 9);
        x.addStudent(0, 9);
        x.addPrerequisite(3, 2);
        x.addPrerequisite(2, 1);
        x.addPrerequisite(3, 0);
        Check.same("all three", 3, x.missing(0, 3));
        Check.same("one", 1, x.missing(0, 2));
        Check.same("none", 0, x.missing(0, 4));
        x.pass(0, 2);
        Check.same("what a passed one requires still counts", 2, x.missing(0, 3));
        x.request(0, 1);
        Check.same("to be enrolled is not to have passed", 2, x.missing(0, 3));
        x.pass(0, 0);
        x.pass(0, 4);
        Check.same("left", 1, x.missing(0, 3));
        Check.same("other student", 3, x.missing(1, 3));
    }

    static void p16_wrongArguments() {
        CourseEnrolment x = office();
        refusesUnknown(x, x::missing);
    }

    static void p17_eachObstacle() {
        CourseEnrolment x = office();
        x.addCourse(2, 7, 0);
        x.addCourse(2, 1, 1 | 1 << 29);
        x.addCourse(0, 1, 0);
        x.addPrerequisite(2, 1);
        Check.same("none", CourseEnrolment.NO_OBSTACLE, x.obstacle(0, 0));
        x.pass(1, 0);
        Check.same("passed", CourseEnrolment.PASSED, x.obstacle(1, 0));
        x.request(0, 0);
        Check.same("enrolled", CourseEnrolment.ENROLLED, x.obstacle(0, 0));
        Check.same("prerequisite", CourseEnrolment.PREREQUISITE, x.obstacle(0, 2));
        Check.same("credits", CourseEnrolment.CREDITS, x.obstacle(0, 3));
        Check.same("clash", CourseEnrolment.CLASH, x.obstacle(0, 4));
        Check.same("no seats are no obstacle", CourseEnrolment.NO_OBSTACLE, x.obstacle(0, 5));
        x.request(0, 5);
        Check.same("nor is waiting", CourseEnrolment.NO_OBSTACLE, x.obstacle(0, 5));
        Check.same("other student", CourseEnrolment.NO_OBSTACLE, x.obstacle(1, 4));
    }

    static void p17_theFirstOneThatAppliesCounts() {
        CourseEnrolment x = new CourseEnrolment();
        x.addCourse(3, 5, 1);
        x.addCourse(3, 6, 1);
        x.addCourse(3, 1, 2);
        x.addStudent(0, 10);
        x.addStudent(0, 10);
        x.addPrerequisite(1, 2);
        x.request(0, 0);
        Check.same("three apply", CourseEnrolment.PREREQUISITE, x.obstacle(0, 1));
        x.pass(0, 2);
        Check.same("two apply", CourseEnrolment.CREDITS, x.obstacle(0, 1));
        x.pass(0, 1);
        Check.same("passed goes first", CourseEnrolment.PASSED, x.obstacle(0, 1));
        x.addPrerequisite(0, 2);
        x.request(1, 2);
        Check.same("enrolled", CourseEnrolment.ENROLLED, x.obstacle(1, 2));
        x.addPrerequisite(2, x.addCourse(1, 1, 0));
        Check.same("before the prerequisite", CourseEnrolment.ENROLLED, x.obstacle(1, 2));
        Check.same("passed before it, too", CourseEnrolment.PASSED, x.obstacle(0, 1));
    }

    static void p17_creditsUpToTheLimit() {
        CourseEnrolment x = new CourseEnrolment();
        x.addCourse(3, 6, 0);
        x.addCourse(3, 4, 0);
        x.addCourse(3, 5, 0);
        x.addStudent(0, 10);
        x.request(0, 0);
        Check.same("exactly the limit", CourseEnrolment.NO_OBSTACLE, x.obstacle(0, 1));
        Check.same("one more", CourseEnrolment.CREDITS, x.obstacle(0, 2));
    }

    static void p17_clashesWithAnyCourseTaken() {
        CourseEnrolment x = new CourseEnrolment();
        x.addCourse(3, 1, 0b0011);
        x.addCourse(3, 1, 0b1100);
        x.addCourse(3, 1, 0b10010);
        x.addCourse(3, 1, 0b101000);
        x.addCourse(3, 1, 0b110000);
        x.addCourse(3, 1, 0);
        x.addStudent(0, 10);
        x.request(0, 0);
        x.request(0, 1);
        Check.same("with the first", CourseEnrolment.CLASH, x.obstacle(0, 2));
        Check.same("with the second", CourseEnrolment.CLASH, x.obstacle(0, 3));
        Check.same("with none", CourseEnrolment.NO_OBSTACLE, x.obstacle(0, 4));
        Check.same("without hours", CourseEnrolment.NO_OBSTACLE, x.obstacle(0, 5));
        x.setSeats(4, 0);
        x.request(0, 4);
        x.setSeats(4, 1);
        Check.same("an offer", 3, x.offerDays(0, 4));
        x.drop(0, 0);
        Check.same("an offer is no clash", CourseEnrolment.NO_OBSTACLE, x.obstacle(0, 2));
    }

    static void p17_allPrerequisitesMustBePassed() {
        CourseEnrolment x = office();
        x.addPrerequisite(2, 1);
        x.addPrerequisite(1, 0);
        x.pass(0, 1);
        Check.same("one is not", CourseEnrolment.PREREQUISITE, x.obstacle(0, 2));
        x.request(0, 0);
        Check.same("enrolled is not passed", CourseEnrolment.PREREQUISITE, x.obstacle(0, 2));
        x.drop(0, 0);
        x.pass(0, 0);
        Check.same("all are", CourseEnrolment.NO_OBSTACLE, x.obstacle(0, 2));
    }

    static void p17_wrongArguments() {
        CourseEnrolment x = office();
        refusesUnknown(x, x::obstacle);
    }
}
