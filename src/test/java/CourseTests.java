/** Promises 1 to 9: a new object, and courses. */
final class CourseTests {
    private static final int ALL_HOURS = 1073741823;
    private static final int LOW = Integer.MIN_VALUE;
    private static final int HIGH = Integer.MAX_VALUE;

    private CourseTests() {
    }

    /** Courses of one seat, one credit and no hours. */
    private static CourseEnrolment withCourses(int count) {
        CourseEnrolment x = new CourseEnrolment();
        for (int c = 0; c < count; c++) {
            Check.same("number", c, x.addCourse(1, 1, 0));
        }
        return x;
    }

    static void p01_aNewOfficeIsEmptyOnDay0() {
        CourseEnrolment x = new CourseEnrolment();
        Check.same("courses", 0, x.courses());
        Check.same("students", 0, x.students());
        Check.same("day", 0, x.day());
        Check.noSuch(x, () -> x.enrolled(0));
        Check.noSuch(x, () -> x.credits(0));
        Check.same("exchange", 0, x.runExchange());
        Check.same("lottery", 0, x.runLottery(0));
    }

    static void p01_officesShareNothing() {
        CourseEnrolment x = withCourses(2);
        x.addStudent(0, 9);
        x.request(0, 0);
        x.advance(3);
        CourseEnrolment y = new CourseEnrolment();
        Check.equal("state of a new office", "day 0, courses 0, students 0\n", State.of(y));
        y.addCourse(5, 5, 5);
        y.addStudent(0, 9);
        Check.same("enrolled", 0, y.enrolled(0));
        Check.same("free", 5, y.freeSeats(0));
        Check.same("day of the other", 3, x.day());
    }

    static void p02_numbersFrom0InTheOrder() {
        CourseEnrolment x = new CourseEnrolment();
        Check.same("first", 0, x.addCourse(3, 4, 1));
        Check.same("second", 1, x.addCourse(0, 1, 0));
        Check.same("third", 2, x.addCourse(16, 12, ALL_HOURS));
        Check.same("courses", 3, x.courses());
        Check.same("seats", 3, x.freeSeats(0));
        Check.same("no seats", 0, x.freeSeats(1));
        Check.same("most seats", 16, x.freeSeats(2));
        Check.same("level", 0, x.level(2));
        Check.same("enrolled", 0, x.enrolled(2));
        Check.same("waiting", 0, x.waiting(2));
    }

    static void p02_creditsAndHoursAreThoseGiven() {
        CourseEnrolment x = new CourseEnrolment();
        x.addCourse(1, 12, ALL_HOURS);
        x.addCourse(1, 1, 1 << 29);
        x.addCourse(1, 1, 0);
        x.addStudent(0, 40);
        x.request(0, 0);
        Check.same("credits", 12, x.credits(0));
        Check.same("the last hour", CourseEnrolment.CLASH, x.obstacle(0, 1));
        Check.same("no hours", CourseEnrolment.NO_OBSTACLE, x.obstacle(0, 2));
    }

    static void p02_argumentsOutOfRange() {
        CourseEnrolment x = withCourses(1);
        for (int seats : new int[] {-1, 17, LOW, HIGH}) {
            Check.badArgument(x, () -> x.addCourse(seats, 1, 0));
        }
        for (int credits : new int[] {0, 13, -1, LOW, HIGH}) {
            Check.badArgument(x, () -> x.addCourse(1, credits, 0));
        }
        for (int hours : new int[] {-1, ALL_HOURS + 1, LOW, HIGH}) {
            Check.badArgument(x, () -> x.addCourse(1, 1, hours));
        }
        Check.same("next", 1, x.addCourse(0, 1, 0));
    }

    static void p02_atMost20Courses() {
        CourseEnrolment x = withCourses(20);
        Check.same("courses", 20, x.courses());
        Check.badState(x, () -> x.addCourse(1, 1, 0));
        Check.badArgument(x, () -> x.addCourse(17, 1, 0));
        Check.badArgument(x, () -> x.addCourse(1, 0, 0));
        Check.badArgument(x, () -> x.addCourse(1, 1, -1));
        Check.same("the last one", 1, x.freeSeats(19));
        Check.noSuch(x, () -> x.freeSeats(20));
    }

    static void p03_returnsTheSeatsBefore() {
        CourseEnrolment x = withCourses(2);
        Check.same("before", 1, x.setSeats(1, 16));
        Check.same("before", 16, x.setSeats(1, 0));
        Check.same("before", 0, x.setSeats(1, 7));
        Check.same("free", 7, x.freeSeats(1));
        Check.same("the other course", 1, x.freeSeats(0));
    }

    static void p03_downToThePlacesTakenAndHeld() {
        CourseEnrolment x = new CourseEnrolment();
        x.addCourse(2, 1, 0);
        for (int s = 0; s < 4; s++) {
            x.addStudent(0, 9);
            x.request(s, 0);
        }
        Check.badState(x, () -> x.setSeats(0, 1));
        x.drop(0, 0);
        Check.same("an offer", 3, x.offerDays(2, 0));
        Check.badState(x, () -> x.setSeats(0, 1));
        Check.badState(x, () -> x.setSeats(0, 0));
        Check.same("as many as are taken", 2, x.setSeats(0, 2));
        x.leave(3, 0);
        x.leave(2, 0);
        Check.same("fewer", 2, x.setSeats(0, 1));
        Check.badState(x, () -> x.setSeats(0, 0));
        Check.same("free", 0, x.freeSeats(0));
    }

    static void p03_newSeatsAreOfferedInTheOrderOfTheList() {
        CourseEnrolment x = new CourseEnrolment();
        x.addCourse(0, 1, 0);
        for (int s = 0; s < 4; s++) {
            x.addStudent(0, 9);
        }
        x.request(3, 0);
        x.request(1, 0);
        x.request(2, 0);
        x.setSeats(0, 2);
        Check.same("first", 3, x.offerDays(3, 0));
        Check.same("second", 3, x.offerDays(1, 0));
        Check.same("third", 0, x.offerDays(2, 0));
        Check.same("free", 0, x.freeSeats(0));
        x.setSeats(0, 4);
        Check.same("third", 3, x.offerDays(2, 0));
        Check.same("free", 1, x.freeSeats(0));
    }

    static void p03_wrongArguments() {
        CourseEnrolment x = withCourses(2);
        x.addStudent(0, 9);
        x.request(0, 0);
        Check.noSuch(x, () -> x.setSeats(-1, 1));
        Check.noSuch(x, () -> x.setSeats(2, 1));
        Check.noSuch(x, () -> x.setSeats(2, 17));
        Check.noSuch(x, () -> x.setSeats(HIGH, -1));
        Check.noSuch(x, () -> x.setSeats(LOW, 1));
        for (int seats : new int[] {-1, 17, LOW, HIGH}) {
            Check.badArgument(x, () -> x.setSeats(0, seats));
        }
        Check.badState(x, () -> x.setSeats(0, 0));
    }

    static void p04_returnsHowManyAreRequired() {
        CourseEnrolment x = withCourses(5);
        Check.same("one", 1, x.addPrerequisite(1, 0));
        Check.same("through another", 2, x.addPrerequisite(2, 1));
        Check.same("one more", 3, x.addPrerequisite(2, 3));
        Check.same("beside", 1, x.addPrerequisite(3, 4));
        Check.yes("2 requires 4", x.requires(2, 4));
        Check.same("already required through another", 4, x.addPrerequisite(2, 0));
    }

    static void p04_spreadsToAllThatRequireTheCourse() {
        CourseEnrolment x = withCourses(6);
        x.addPrerequisite(5, 4);
        x.addPrerequisite(4, 3);
        x.addPrerequisite(1, 0);
        Check.same("a chain under a chain", 3, x.addPrerequisite(3, 1) + 1);
        for (int c = 3; c <= 5; c++) {
            Check.yes("0 is required", x.requires(c, 0));
            Check.yes("1 is required", x.requires(c, 1));
        }
        Check.no("0 requires nothing", x.requires(0, 5));
        Check.no("2 is beside", x.requires(5, 2));
    }

    static void p04_noCirclesAndNoneTwice() {
        CourseEnrolment x = withCourses(4);
        x.addPrerequisite(1, 0);
        x.addPrerequisite(2, 1);
        Check.badState(x, () -> x.addPrerequisite(1, 1));
        Check.badState(x, () -> x.addPrerequisite(3, 3));
        Check.badState(x, () -> x.addPrerequisite(1, 0));
        Check.badState(x, () -> x.addPrerequisite(0, 1));
        Check.badState(x, () -> x.addPrerequisite(0, 2));
        x.addPrerequisite(2, 0);
        Check.badState(x, () -> x.addPrerequisite(2, 0));
    }

    static void p04_enrolledStudentsStay() {
        CourseEnrolment x = withCourses(2);
        x.addStudent(0, 9);
        x.addStudent(0, 9);
        x.request(0, 1);
        x.addPrerequisite(1, 0);
        Check.yes("enrolled", x.isEnrolled(0, 1));
        Check.same("obstacle", CourseEnrolment.ENROLLED, x.obstacle(0, 1));
        Check.same("other student", CourseEnrolment.PREREQUISITE, x.obstacle(1, 1));
    }

    static void p04_offersStayAndNewObstaclesBarNewOffers() {
        CourseEnrolment x = new CourseEnrolment();
        x.addCourse(0, 1, 0);
        x.addCourse(0, 1, 0);
        x.addStudent(0, 9);
        x.addStudent(0, 9);
        x.request(0, 1);
        x.request(1, 1);
        x.setSeats(1, 1);
        x.addPrerequisite(1, 0);
        Check.same("the offer stays", 3, x.offerDays(0, 1));
        x.setSeats(1, 2);
        Check.same("no offer", 0, x.offerDays(1, 1));
        Check.same("free", 1, x.freeSeats(1));
    }

    static void p04_wrongArguments() {
        CourseEnrolment x = withCourses(2);
        for (int c : new int[] {-1, 2, 20, LOW, HIGH}) {
            Check.noSuch(x, () -> x.addPrerequisite(c, 0));
            Check.noSuch(x, () -> x.addPrerequisite(0, c));
            Check.noSuch(x, () -> x.addPrerequisite(c, c));
        }
    }

    static void p05_directlyOrThroughOthers() {
        CourseEnrolment x = withCourses(4);
        x.addPrerequisite(3, 2);
        x.addPrerequisite(2, 1);
        Check.yes("directly", x.requires(3, 2));
        Check.yes("through another", x.requires(3, 1));
        Check.no("the other way", x.requires(1, 3));
        Check.no("itself", x.requires(3, 3));
        Check.no("beside", x.requires(3, 0));
        Check.no("nothing", x.requires(0, 3));
    }

    static void p05_wrongArguments() {
        CourseEnrolment x = withCourses(2);
        for (int c : new int[] {-1, 2, 20, 32, LOW, HIGH}) {
            Check.noSuch(x, () -> x.requires(c, 0));
            Check.noSuch(x, () -> x.requires(0, c));
            Check.noSuch(x, () -> x.requires(c, c));
        }
    }

    static void p06_oneMoreThanTheGreatestBelow() {
        CourseEnrolment x = withCourses(5);
        Check.same("no prerequisites", 0, x.level(4));
        x.addPrerequisite(4, 3);
        Check.same("one", 1, x.level(4));
        x.addPrerequisite(4, 2);
        Check.same("two of level 0", 1, x.level(4));
        x.addPrerequisite(2, 1);
        Check.same("raised from below", 2, x.level(4));
        x.addPrerequisite(1, 0);
        Check.same("raised from far below", 3, x.level(4));
        x.addPrerequisite(4, 0);
        Check.same("a short way beside", 3, x.level(4));
        Check.same("middle", 2, x.level(2));
        Check.same("lowest", 0, x.level(0));
    }

    static void p06_theOrderOfTheNumbersDoesNotMatter() {
        CourseEnrolment x = withCourses(4);
        x.addPrerequisite(3, 0);
        x.addPrerequisite(0, 2);
        x.addPrerequisite(2, 1);
        Check.same("over course 0", 3, x.level(3));
        Check.same("course 0", 2, x.level(0));
    }

    static void p06_theLongestChain() {
        CourseEnrolment up = withCourses(20);
        CourseEnrolment down = withCourses(20);
        for (int c = 1; c < 20; c++) {
            up.addPrerequisite(c, c - 1);
            down.addPrerequisite(c - 1, c);
        }
        for (int c = 0; c < 20; c++) {
            Check.same("upwards", c, up.level(c));
            Check.same("downwards", 19 - c, down.level(c));
        }
        Check.yes("all the way", up.requires(19, 0));
        Check.badState(up, () -> up.addPrerequisite(0, 19));
    }

    static void p06_allLowerCoursesAreDirectPrerequisites() {
        CourseEnrolment x = withCourses(20);
        for (int c = 1; c < 20; c++) {
            for (int below = 0; below < c; below++) {
                x.addPrerequisite(c, below);
            }
        }
        Check.same("level", 19, x.level(19));
        Check.same("level", 7, x.level(7));
    }

    static void p06_wrongArguments() {
        CourseEnrolment x = withCourses(2);
        for (int c : new int[] {-1, 2, 20, LOW, HIGH}) {
            Check.noSuch(x, () -> x.level(c));
        }
    }

    static void p07_countsTheCourses() {
        CourseEnrolment x = new CourseEnrolment();
        for (int c = 0; c < 20; c++) {
            Check.same("courses", c, x.courses());
            x.addCourse(1, 1, 0);
        }
        Check.same("courses", 20, x.courses());
    }

    static void p08_countsTheEnrolledOnly() {
        CourseEnrolment x = new CourseEnrolment();
        x.addCourse(2, 1, 0);
        x.addCourse(2, 1, 0);
        for (int s = 0; s < 4; s++) {
            x.addStudent(0, 9);
        }
        Check.same("nobody", 0, x.enrolled(0));
        x.request(0, 0);
        Check.same("one", 1, x.enrolled(0));
        x.request(3, 0);
        Check.same("two", 2, x.enrolled(0));
        x.request(1, 0);
        Check.same("one waits", 2, x.enrolled(0));
        x.drop(0, 0);
        Check.same("an offer is no enrolment", 1, x.enrolled(0));
        x.pass(2, 0);
        Check.same("to have passed is none", 1, x.enrolled(0));
        Check.same("other course", 0, x.enrolled(1));
        for (int c : new int[] {-1, 2, 20, LOW, HIGH}) {
            Check.noSuch(x, () -> x.enrolled(c));
        }
    }

    static void p09_seatsLessEnrolledLessOffers() {
        CourseEnrolment x = new CourseEnrolment();
        x.addCourse(2, 1, 0);
        for (int s = 0; s < 3; s++) {
            x.addStudent(0, 9);
        }
        Check.same("all", 2, x.freeSeats(0));
        x.request(0, 0);
        Check.same("one taken", 1, x.freeSeats(0));
        x.request(1, 0);
        x.request(2, 0);
        Check.same("none", 0, x.freeSeats(0));
        x.drop(1, 0);
        Check.same("one held", 0, x.freeSeats(0));
        x.drop(0, 0);
        Check.same("one held, one free", 1, x.freeSeats(0));
        x.leave(2, 0);
        Check.same("all again", 2, x.freeSeats(0));
        for (int c : new int[] {-1, 1, 20, LOW, HIGH}) {
            Check.noSuch(x, () -> x.freeSeats(c));
        }
    }
}
