/** Promises 1 to 9: a new object, and courses. */
final class CourseTests {
    private static final int ALL_HOURS = 1073741823;
    private static final int LOW = Integer.MIN_VALUE;
    private static final int HIGH = Integer.MAX_VALUE;

    private CourseTests() {
    }

    /** Courses of one seat, one credit and no hours. */
    private static Office withCourses(int count) {
        return Office.with(count, 1, 0);
    }

    /** A course with as many seats as are taken and held. */
    private static Office takenAndHeld(int taken, int held) {
        Office x = Office.with(1, taken, taken + held);
        for (int s = 0; s < taken + held; s++) {
            x.request(s, 0);
        }
        x.setSeats(0, taken + held);
        return x;
    }

    // Promise 1: "Creates an office without courses and students, on the day 0"
    static void p01_noCoursesNoStudentsDay0() {
        Office x = new Office();
        Check.same("courses", 0, x.courses());
        Check.same("students", 0, x.students());
        Check.same("day", 0, x.day());
    }

    // Promise 1: "Creates an office without courses and students, .."
    static void p01_anEmptyOfficeKnowsNoNumber() {
        Office x = new Office();
        Check.refusesNumbers(x, 0, x::enrolled);
        Check.refusesNumbers(x, 0, x::credits);
        Check.refusesUnknown(x, x::request);
        Check.refusesUnknown(x, x::wish);
        Check.refusesNumbers(x, 0, c -> x.addPrerequisite(c, c));
        Check.refusesNumbers(x, 0, x::pointsTo);
    }

    // Promise 1: "Creates an office without courses and students, .."
    static void p01_roundsInAnEmptyOffice() {
        Office x = new Office();
        Check.same("exchange", 0, x.runExchange());
        Check.same("lottery", 0, x.runLottery(0));
        Check.same("expired", 0, x.advance(7));
        Check.same("day", 7, x.day());
    }

    // Promise 1: "Creates an office .."
    static void p01_officesShareNothing() {
        Office x = Office.with(2, 1, 1);
        x.request(0, 0);
        x.wish(0, 1);
        x.advance(3);
        Office y = new Office();
        Check.same("courses", 0, y.courses());
        Check.same("students", 0, y.students());
        Check.same("day", 0, y.day());
        y.addCourse(5, 5, 5);
        y.addStudent(0, 9);
        Check.same("enrolled", 0, y.enrolled(0));
        Check.same("free", 5, y.freeSeats(0));
        Check.same("wishes", 0, y.wishes(0));
        Check.same("day of the other", 3, x.day());
    }

    // Promise 2: "Adds a course"
    static void p02_theCourseIsAsItWasGiven() {
        Office x = new Office();
        x.addCourse(3, 4, 0b101);
        x.addCourse(3, 1, 0b100);
        x.addStudent(0, 4);
        Check.same("courses", 2, x.courses());
        Check.same("seats", 3, x.freeSeats(0));
        Check.same("enrolled", 0, x.enrolled(0));
        Check.same("waiting", 0, x.waiting(0));
        Check.same("level", 0, x.level(0));
        x.request(0, 1);
        Check.same("4 and 1 credits", CourseEnrolment.CREDITS, x.obstacle(0, 0));
        x.drop(0, 1);
        x.request(0, 0);
        Check.same("credits", 4, x.credits(0));
    }

    // Promise 2: "seats: number of seats, 0 to 16"
    static void p02_seatsFrom0To16() {
        Office x = new Office();
        for (int seats = 0; seats <= 16; seats++) {
            Check.same("number", seats, x.addCourse(seats, 1, 0));
            Check.same("free", seats, x.freeSeats(seats));
        }
    }

    // Promise 2: "credits: credits, 1 to 12"
    static void p02_creditsFrom1To12() {
        Office x = new Office();
        x.addStudent(0, 40);
        for (int credits = 1; credits <= 12; credits++) {
            Check.same("number", credits - 1, x.addCourse(1, credits, 0));
            x.request(0, credits - 1);
            Check.same("credits", credits, x.credits(0));
            x.drop(0, credits - 1);
        }
    }

    // Promise 2: "hours: set of hours, 0 to 1073741823"
    static void p02_hoursFromNoneToAll() {
        Office x = new Office();
        x.addStudent(0, 40);
        Check.same("none", 0, x.addCourse(1, 1, 0));
        Check.same("the first", 1, x.addCourse(1, 1, 1));
        Check.same("the last", 2, x.addCourse(1, 1, 1 << 29));
        Check.same("all but the first", 3, x.addCourse(1, 1, ALL_HOURS - 1));
        Check.same("all", 4, x.addCourse(1, 1, ALL_HOURS));
        x.request(0, 1);
        Check.same("the last", CourseEnrolment.NO_OBSTACLE, x.obstacle(0, 2));
        Check.same("all but the first", CourseEnrolment.NO_OBSTACLE, x.obstacle(0, 3));
        Check.same("all", CourseEnrolment.CLASH, x.obstacle(0, 4));
        x.change(0, 1, 2);
        Check.same("all but the first", CourseEnrolment.CLASH, x.obstacle(0, 3));
        Check.same("all", CourseEnrolment.CLASH, x.obstacle(0, 4));
    }

    // Promise 2: "0 for a course without hours"
    static void p02_withoutHoursThereIsNoClash() {
        Office x = new Office();
        x.addCourse(1, 1, 0);
        x.addCourse(1, 1, ALL_HOURS);
        x.addCourse(1, 1, 0);
        x.addStudent(0, 40);
        x.request(0, 0);
        Check.same("with all hours", CourseEnrolment.NO_OBSTACLE, x.obstacle(0, 1));
        Check.same("with another such", CourseEnrolment.NO_OBSTACLE, x.obstacle(0, 2));
        x.request(0, 1);
        Check.same("beside all hours", CourseEnrolment.NO_OBSTACLE, x.obstacle(0, 2));
    }

    // Promise 2: "Returns the number of the course"
    static void p02_returnsTheNumbers0To19() {
        Office x = new Office();
        for (int c = 0; c < 20; c++) {
            Check.same("number", c, x.addCourse(1, 1, 0));
            Check.badArgument(x, () -> x.addCourse(-1, 1, 0));
        }
    }

    // Promise 2: "Throws IllegalArgumentException if seats, .. is out of range"
    static void p02_seatsOutOfRange() {
        Office x = withCourses(1);
        for (int seats : new int[] {-1, 17, 32, LOW, HIGH}) {
            Check.badArgument(x, () -> x.addCourse(seats, 1, 0));
        }
    }

    // Promise 2: "Throws IllegalArgumentException if .. credits .. is out of range"
    static void p02_creditsOutOfRange() {
        Office x = withCourses(1);
        for (int credits : new int[] {0, 13, -1, LOW, HIGH}) {
            Check.badArgument(x, () -> x.addCourse(1, credits, 0));
        }
    }

    // Promise 2: "Throws IllegalArgumentException if .. hours is out of range"
    static void p02_hoursOutOfRange() {
        Office x = withCourses(1);
        for (int hours : new int[] {-1, ALL_HOURS + 1, ALL_HOURS + 2, LOW, LOW + 1, HIGH}) {
            Check.badArgument(x, () -> x.addCourse(1, 1, hours));
        }
    }

    // Promise 2: "Throws IllegalStateException if there are 20 courses"
    static void p02_notWhenThereAre20() {
        Office x = withCourses(19);
        Check.same("the last one", 19, x.addCourse(1, 1, 0));
        Check.badState(x, () -> x.addCourse(1, 1, 0));
        Check.badState(x, () -> x.addCourse(0, 1, 0));
        Check.badState(x, () -> x.addCourse(16, 12, ALL_HOURS));
    }

    // Promise 2: "Throws IllegalStateException if there are 20 courses"
    static void p02_theLastCourseStaysAsItIs() {
        Office x = withCourses(18);
        x.addCourse(1, 1, 0b01);
        x.addCourse(1, 4, 0b10);
        x.addStudent(0, 5);
        x.request(0, 18);
        Check.badState(x, () -> x.addCourse(1, 5, 0b10));
        Check.badState(x, () -> x.addCourse(1, 3, 0b10));
        Check.badState(x, () -> x.addCourse(1, 4, 0b11));
        Check.badState(x, () -> x.addCourse(2, 4, 0b10));
        Check.same("enrolled", 0, x.request(0, 19));
        Check.same("credits", 5, x.credits(0));
        Check.same("seats", 0, x.freeSeats(19));
    }

    // Promise 3: "Changes the number of seats of a course"
    static void p03_changesTheSeatsOfThisCourseOnly() {
        Office x = withCourses(3);
        x.setSeats(1, 7);
        Check.same("changed", 7, x.freeSeats(1));
        Check.same("before it", 1, x.freeSeats(0));
        Check.same("after it", 1, x.freeSeats(2));
        x.setSeats(1, 7);
        Check.same("the same number", 7, x.freeSeats(1));
    }

    // Promise 3: "Changes the number of seats of a course"
    static void p03_moreSeatsAreOfferedInTheOrderOfTheList() {
        Office x = Office.with(1, 0, 4);
        x.request(3, 0);
        x.request(1, 0);
        x.request(2, 0);
        x.setSeats(0, 2);
        Check.same("first", 3, x.offerDays(3, 0));
        Check.same("second", 3, x.offerDays(1, 0));
        Check.same("third", 0, x.offerDays(2, 0));
        x.setSeats(0, 4);
        Check.same("third", 3, x.offerDays(2, 0));
        Check.same("free", 1, x.freeSeats(0));
    }

    // Promise 3: "seats: number of seats, 0 to 16"
    static void p03_seatsFrom0To16() {
        Office x = withCourses(1);
        for (int seats = 0; seats <= 16; seats++) {
            x.setSeats(0, seats);
            Check.same("free", seats, x.freeSeats(0));
        }
    }

    // Promise 3: "Returns the number of seats before"
    static void p03_returnsTheSeatsBefore() {
        Office x = Office.with(2, 3, 1);
        x.request(0, 1);
        Check.same("as it was added", 3, x.setSeats(1, 16));
        Check.same("16", 16, x.setSeats(1, 1));
        Check.same("all taken", 1, x.setSeats(1, 1));
        x.drop(0, 1);
        Check.same("not what is free", 1, x.setSeats(1, 0));
        Check.same("0", 0, x.setSeats(1, 5));
        Check.same("the other course", 3, x.setSeats(0, 0));
    }

    // Promise 3: "Throws IndexOutOfBoundsException if there is no such course"
    static void p03_noSuchCourse() {
        Office x = withCourses(2);
        Check.refusesCourses(x, c -> x.setSeats(c, 1));
        Office all = withCourses(20);
        Check.noSuch(all, () -> all.setSeats(20, 1));
        Check.same("the last one", 1, all.setSeats(19, 2));
    }

    // Promise 3: "Throws IllegalArgumentException if seats is out of range"
    static void p03_seatsOutOfRange() {
        Office x = withCourses(1);
        for (int seats : new int[] {-1, 17, 32, LOW, HIGH}) {
            Check.badArgument(x, () -> x.setSeats(0, seats));
        }
    }

    // Promise 3: "Throws IllegalStateException if seats is less than the students enrolled in the
    // course and the offers for it, added up"
    static void p03_asManyAsTakenAndHeldButNotLess() {
        for (int taken = 0; taken <= 3; taken++) {
            for (int held = 0; held <= 3; held++) {
                Office x = takenAndHeld(taken, held);
                int both = taken + held;
                for (int s = 0; s < both; s++) {
                    int seats = s;
                    Check.badState(x, () -> x.setSeats(0, seats));
                }
                x.setSeats(0, 16);
                Check.same("as many", 16, x.setSeats(0, both));
                Check.same("none free", 0, x.freeSeats(0));
            }
        }
    }

    // Promise 3: "Throws IllegalStateException if seats is less than the students enrolled in the
    // course and the offers for it, added up"
    static void p03_thoseWithoutAnOfferDoNotCount() {
        Office x = Office.with(2, 1, 3);
        for (int s = 0; s < 3; s++) {
            x.request(s, 0);
        }
        Check.same("two wait", 1, x.setSeats(0, 1));
        x.request(0, 1);
        x.drop(0, 0);
        Check.same("one is held, one waits", 1, x.setSeats(0, 1));
        x.leave(2, 0);
        x.leave(1, 0);
        Check.same("none is taken or held here", 1, x.setSeats(0, 0));
    }

    // Promise 3: "Throws IllegalStateException if seats is less than the students enrolled in the
    // course and the offers for it, added up"
    static void p03_all16Taken() {
        Office x = takenAndHeld(8, 8);
        Check.badState(x, () -> x.setSeats(0, 15));
        Check.same("16", 16, x.setSeats(0, 16));
    }

    // Promise 4: "Adds a direct prerequisite of a course"
    static void p04_addsADirectPrerequisite() {
        Office x = Office.with(3, 1, 1);
        x.addPrerequisite(1, 0);
        Check.yes("required", x.requires(1, 0));
        Check.no("not the other way", x.requires(0, 1));
        Check.no("not by others", x.requires(2, 0));
        Check.same("level", 1, x.level(1));
        Check.same("missing", 1, x.missing(0, 1));
        Check.same("obstacle", CourseEnrolment.PREREQUISITE, x.obstacle(0, 1));
    }

    // Promise 4: "Adds a direct prerequisite of a course"
    static void p04_countsForAllThatRequireTheCourse() {
        Office x = withCourses(6);
        x.addPrerequisite(5, 4);
        x.addPrerequisite(4, 3);
        x.addPrerequisite(1, 0);
        x.addPrerequisite(3, 1);
        for (int c = 3; c <= 5; c++) {
            Check.yes("0 is required", x.requires(c, 0));
            Check.yes("1 is required", x.requires(c, 1));
        }
        Check.no("0 requires nothing", x.requires(0, 5));
        Check.no("2 is beside", x.requires(5, 2));
    }

    // Promise 4: "Adds a direct prerequisite of a course"
    static void p04_offersStayAndNewOnesAreBarred() {
        Office x = Office.with(2, 0, 2);
        x.request(0, 1);
        x.request(1, 1);
        x.setSeats(1, 1);
        x.addPrerequisite(1, 0);
        Check.same("the offer stays", 3, x.offerDays(0, 1));
        x.setSeats(1, 2);
        Check.same("no offer", 0, x.offerDays(1, 1));
        Check.same("free", 1, x.freeSeats(1));
    }

    // Promise 4: "Students who are enrolled already stay so"
    static void p04_enrolledStudentsStay() {
        Office x = Office.with(3, 2, 2);
        x.request(0, 1);
        x.request(0, 2);
        x.addPrerequisite(1, 0);
        x.addPrerequisite(2, 1);
        Check.yes("enrolled", x.isEnrolled(0, 1));
        Check.yes("enrolled above it", x.isEnrolled(0, 2));
        Check.same("places", 1, x.enrolled(1));
        Check.same("credits", 2, x.credits(0));
        Check.same("obstacle", CourseEnrolment.ENROLLED, x.obstacle(0, 1));
        Check.same("other student", CourseEnrolment.PREREQUISITE, x.obstacle(1, 1));
    }

    // Promise 4: "Returns how many courses the course requires then"
    static void p04_returnsHowManyAreRequired() {
        Office x = withCourses(6);
        Check.same("one", 1, x.addPrerequisite(1, 0));
        Check.same("through another", 2, x.addPrerequisite(2, 1));
        Check.same("one more", 3, x.addPrerequisite(2, 3));
        Check.same("beside", 1, x.addPrerequisite(3, 4));
        Check.yes("2 requires 4", x.requires(2, 4));
        Check.same("required through another before", 4, x.addPrerequisite(2, 0));
        x.addPrerequisite(5, 2);
        Check.same("all required through another before", 5, x.addPrerequisite(5, 4));
    }

    // Promise 4: "Returns how many courses the course requires then"
    static void p04_upToAll19Others() {
        Office x = withCourses(20);
        for (int c = 1; c < 20; c++) {
            Check.same("of a chain", c, x.addPrerequisite(c, c - 1));
        }
        for (int c = 17; c >= 0; c--) {
            Check.same("all of them already", 19, x.addPrerequisite(19, c));
        }
    }

    // Promise 4: "Throws IndexOutOfBoundsException if there is no course with one of the numbers"
    static void p04_noSuchCourse() {
        Office x = withCourses(2);
        Check.refusesCourses(x, c -> x.addPrerequisite(c, 0));
        Check.refusesCourses(x, c -> x.addPrerequisite(0, c));
        Check.refusesCourses(x, c -> x.addPrerequisite(c, c));
    }

    // Promise 4: "Throws IllegalStateException if both are the same course, .."
    static void p04_notTheSameCourse() {
        Office x = withCourses(20);
        x.addPrerequisite(19, 0);
        for (int c : new int[] {0, 7, 19}) {
            Check.badState(x, () -> x.addPrerequisite(c, c));
        }
    }

    // Promise 4: "Throws IllegalStateException if .. it is a direct prerequisite already, .."
    static void p04_noDirectPrerequisiteTwice() {
        Office x = withCourses(4);
        x.addPrerequisite(1, 0);
        Check.badState(x, () -> x.addPrerequisite(1, 0));
        x.addPrerequisite(2, 1);
        Check.badState(x, () -> x.addPrerequisite(2, 1));
        Check.same("one required through another is none yet", 2, x.addPrerequisite(2, 0));
        Check.badState(x, () -> x.addPrerequisite(2, 0));
    }

    // Promise 4: "Throws IllegalStateException if .. required requires course"
    static void p04_notACourseThatRequiresThisOne() {
        Office x = withCourses(20);
        for (int c = 1; c < 20; c++) {
            x.addPrerequisite(c, c - 1);
        }
        for (int above : new int[] {1, 2, 10, 19}) {
            Check.badState(x, () -> x.addPrerequisite(0, above));
        }
        Check.badState(x, () -> x.addPrerequisite(9, 10));
        Check.same("the other way", 10, x.addPrerequisite(10, 8));
    }

    // Promise 5: "Tells whether a course requires another one, directly or through others"
    static void p05_directlyOrThroughOthers() {
        Office x = withCourses(20);
        for (int c = 1; c < 20; c++) {
            x.addPrerequisite(c - 1, c);
        }
        Check.yes("directly", x.requires(0, 1));
        Check.yes("through one", x.requires(0, 2));
        Check.yes("through 18", x.requires(0, 19));
        Check.yes("the last two", x.requires(18, 19));
    }

    // Promise 5: "Returns true if course requires other"
    static void p05_falseIfItDoesNot() {
        Office x = withCourses(4);
        Check.no("nothing is required yet", x.requires(1, 0));
        x.addPrerequisite(3, 2);
        x.addPrerequisite(2, 1);
        Check.yes("it does", x.requires(3, 1));
        Check.no("the other way", x.requires(1, 3));
        Check.no("itself", x.requires(3, 3));
        Check.no("beside", x.requires(3, 0));
        Check.no("from beside", x.requires(0, 3));
    }

    // Promise 5: "Throws IndexOutOfBoundsException if there is no course with one of the numbers"
    static void p05_noSuchCourse() {
        Office x = withCourses(2);
        x.addPrerequisite(1, 0);
        Check.refusesCourses(x, c -> x.requires(c, 0));
        Check.refusesCourses(x, c -> x.requires(1, c));
        Check.refusesCourses(x, c -> x.requires(c, c));
    }

    // Promise 6: "Returns the level of a course"
    static void p06_fromLevel0ToLevel19() {
        Office up = withCourses(20);
        Office down = withCourses(20);
        for (int c = 1; c < 20; c++) {
            up.addPrerequisite(c, c - 1);
            down.addPrerequisite(c - 1, c);
        }
        for (int c = 0; c < 20; c++) {
            Check.same("upwards", c, up.level(c));
            Check.same("downwards", 19 - c, down.level(c));
        }
    }

    // Promise 6: "Returns 0 if it has no prerequisites"
    static void p06_level0WithoutPrerequisites() {
        Office x = withCourses(3);
        Check.same("a new one", 0, x.level(1));
        x.addPrerequisite(2, 1);
        Check.same("one that is required", 0, x.level(1));
        Check.same("one beside", 0, x.level(0));
    }

    // Promise 6: "otherwise 1 more than the greatest level among its direct prerequisites"
    static void p06_oneMoreThanTheGreatestBelow() {
        Office x = withCourses(5);
        x.addPrerequisite(4, 3);
        Check.same("one of level 0", 1, x.level(4));
        x.addPrerequisite(4, 2);
        Check.same("two of level 0", 1, x.level(4));
        x.addPrerequisite(2, 1);
        Check.same("raised from below", 2, x.level(4));
        x.addPrerequisite(1, 0);
        Check.same("raised from far below", 3, x.level(4));
        x.addPrerequisite(4, 0);
        Check.same("a short way beside", 3, x.level(4));
        Check.same("middle", 2, x.level(2));
        Check.same("the other one of level 0", 0, x.level(3));
    }

    // Promise 6: "otherwise 1 more than the greatest level among its direct prerequisites"
    static void p06_theOrderOfTheNumbersDoesNotMatter() {
        Office x = withCourses(4);
        x.addPrerequisite(3, 0);
        x.addPrerequisite(0, 2);
        x.addPrerequisite(2, 1);
        Check.same("over course 0", 3, x.level(3));
        Check.same("course 0", 2, x.level(0));
    }

    // Promise 6: "otherwise 1 more than the greatest level among its direct prerequisites"
    static void p06_allLowerCoursesAreDirectPrerequisites() {
        Office x = withCourses(20);
        for (int c = 1; c < 20; c++) {
            for (int below = 0; below < c; below++) {
                x.addPrerequisite(c, below);
            }
        }
        for (int c = 0; c < 20; c++) {
            Check.same("level", c, x.level(c));
        }
    }

    // Promise 6: "Throws IndexOutOfBoundsException if there is no such course"
    static void p06_noSuchCourse() {
        Office x = withCourses(2);
        Check.refusesCourses(x, x::level);
    }

    // Promise 7: "Returns the number of courses"
    static void p07_from0To20() {
        Office x = new Office();
        for (int c = 0; c < 20; c++) {
            Check.same("courses", c, x.courses());
            x.addCourse(1, 1, 0);
        }
        Check.same("courses", 20, x.courses());
        Check.badState(x, () -> x.addCourse(1, 1, 0));
        Check.same("not one more", 20, x.courses());
    }

    // Promise 8: "Returns how many students are enrolled in a course"
    static void p08_countsTheEnrolledOnly() {
        Office x = Office.with(2, 2, 5);
        x.request(0, 0);
        x.request(3, 0);
        x.request(1, 0);
        Check.same("one waits", 2, x.enrolled(0));
        x.drop(0, 0);
        Check.same("an offer is no enrolment", 1, x.enrolled(0));
        x.pass(2, 0);
        x.wish(4, 0);
        Check.same("nor is to have passed, nor a wish", 1, x.enrolled(0));
        Check.same("other course", 0, x.enrolled(1));
    }

    // Promise 8: "Returns how many"
    static void p08_fromNobodyToAll16() {
        Office x = Office.with(1, 16, 16);
        for (int s = 0; s < 16; s++) {
            Check.same("enrolled", s, x.enrolled(0));
            x.request(s, 0);
        }
        Check.same("all", 16, x.enrolled(0));
        for (int s = 0; s < 16; s++) {
            x.drop(s, 0);
            Check.same("enrolled", 15 - s, x.enrolled(0));
        }
    }

    // Promise 8: "Throws IndexOutOfBoundsException if there is no such course"
    static void p08_noSuchCourse() {
        Office x = withCourses(2);
        Check.refusesCourses(x, x::enrolled);
    }

    // Promise 9: "Returns the number of free seats of a course"
    static void p09_from0To16FreeSeats() {
        Office x = new Office();
        for (int seats = 0; seats <= 16; seats++) {
            x.addCourse(seats, 1, 0);
            Check.same("of a new course", seats, x.freeSeats(seats));
        }
    }

    // Promise 9: "Returns its seats, less the students enrolled in it, less the offers for it"
    static void p09_seatsLessEnrolledLessOffers() {
        Office x = Office.with(2, 2, 3);
        x.request(0, 0);
        Check.same("one taken", 1, x.freeSeats(0));
        x.request(1, 0);
        x.request(2, 0);
        Check.same("both taken, one waits", 0, x.freeSeats(0));
        x.drop(1, 0);
        Check.same("one taken, one held", 0, x.freeSeats(0));
        x.drop(0, 0);
        Check.same("one held", 1, x.freeSeats(0));
        x.leave(2, 0);
        Check.same("all again", 2, x.freeSeats(0));
        Check.same("the other course", 2, x.freeSeats(1));
    }

    // Promise 9: "Returns its seats, less the students enrolled in it, less the offers for it"
    static void p09_all16TakenOrHeld() {
        for (int held : new int[] {0, 1, 15, 16}) {
            Office x = takenAndHeld(16 - held, held);
            Check.same("none is left", 0, x.freeSeats(0));
            x.advance(3);
            Check.same("those held are free", held, x.freeSeats(0));
        }
    }

    // Promise 9: "Throws IndexOutOfBoundsException if there is no such course"
    static void p09_noSuchCourse() {
        Office x = withCourses(2);
        Check.refusesCourses(x, x::freeSeats);
    }
}
