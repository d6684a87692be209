/** Promises 10 to 17: students. */
final class StudentTests {
    private static final int NO_OBSTACLE = CourseEnrolment.NO_OBSTACLE;
    private static final int PASSED = CourseEnrolment.PASSED;
    private static final int ENROLLED = CourseEnrolment.ENROLLED;
    private static final int PREREQUISITE = CourseEnrolment.PREREQUISITE;
    private static final int CREDITS = CourseEnrolment.CREDITS;
    private static final int CLASH = CourseEnrolment.CLASH;
    private static final int LOW = Integer.MIN_VALUE;
    private static final int HIGH = Integer.MAX_VALUE;

    private StudentTests() {
    }

    /** Three courses of 2 seats, 4 credits and an hour each, two students of limit 10. */
    private static Office office() {
        Office x = new Office();
        for (int c = 0; c < 3; c++) {
            x.addCourse(2, 4, 1 << c);
        }
        x.addStudent(0, 10);
        x.addStudent(3, 10);
        return x;
    }

    // Promise 10: "Adds a student who has passed nothing"
    static void p10_theNewStudentHasPassedNothing() {
        Office x = Office.with(20, 1, 1);
        for (int c = 0; c < 20; c++) {
            x.pass(0, c);
        }
        Check.same("number", 1, x.addStudent(0, 40));
        for (int c = 0; c < 20; c++) {
            Check.no("passed", x.hasPassed(1, c));
        }
        Check.same("the first one passed", 1, x.pass(1, 19));
    }

    // Promise 10: "Adds a student who has passed nothing"
    static void p10_theNewStudentHasNothingElseEither() {
        Office x = office();
        x.runLottery(1);
        x.addStudent(0, 40);
        Check.same("students", 3, x.students());
        Check.same("credits", 0, x.credits(2));
        Check.same("wishes", 0, x.wishes(2));
        Check.same("lottery number", CourseEnrolment.NONE, x.lotteryNumber(2));
        Check.same("place up", CourseEnrolment.NONE, x.placeUp(2));
        for (int c = 0; c < 3; c++) {
            Check.no("enrolled", x.isEnrolled(2, c));
            Check.same("offer", 0, x.offerDays(2, c));
        }
    }

    // Promise 10: "band: priority band, 0 to 3"
    static void p10_bandsFrom0To3() {
        Office x = new Office();
        for (int c = 0; c < 4; c++) {
            x.addCourse(1, 1, 0);
        }
        for (int band = 3; band >= 0; band--) {
            Check.same("number", 3 - band, x.addStudent(band, 40));
        }
        for (int s = 0; s < 4; s++) {
            for (int c = 0; c < 4; c++) {
                x.wish(s, c);
            }
        }
        Check.same("all", 4, x.runLottery(0));
        for (int s = 0; s < 4; s++) {
            Check.yes("in the order of the bands", x.isEnrolled(s, 3 - s));
        }
    }

    // Promise 10: "limit: credit limit, 1 to 40"
    static void p10_limitsFrom1To40() {
        for (int limit = 1; limit <= 40; limit++) {
            Office x = new Office();
            for (int c = 0; c < 4; c++) {
                x.addCourse(1, Math.max(1, Math.min(12, limit - 12 * c)), 0);
            }
            x.addCourse(1, 1, 0);
            Check.same("number", 0, x.addStudent(0, limit));
            for (int c = 0; c < 4 && limit > 12 * c; c++) {
                Check.same("up to the limit", 0, x.request(0, c));
            }
            Check.same("credits", limit, x.credits(0));
            Check.same("one more", CREDITS, x.obstacle(0, 4));
        }
    }

    // Promise 10: "Returns the number of the student"
    static void p10_returnsTheNumbers0To15() {
        Office x = new Office();
        for (int s = 0; s < 16; s++) {
            Check.same("number", s, x.addStudent(s % 4, 1 + s));
            Check.badArgument(x, () -> x.addStudent(-1, 1));
        }
    }

    // Promise 10: "Throws IllegalArgumentException if band .. is out of range"
    static void p10_bandsOutOfRange() {
        Office x = office();
        for (int band : new int[] {-1, 4, LOW, HIGH}) {
            Check.badArgument(x, () -> x.addStudent(band, 10));
        }
    }

    // Promise 10: "Throws IllegalArgumentException if .. limit is out of range"
    static void p10_limitsOutOfRange() {
        Office x = office();
        for (int limit : new int[] {0, 41, -1, LOW, HIGH}) {
            Check.badArgument(x, () -> x.addStudent(0, limit));
        }
    }

    // Promise 10: "Throws IllegalStateException if there are 16 students"
    static void p10_notWhenThereAre16() {
        Office x = Office.with(1, 1, 15);
        Check.same("the last one", 15, x.addStudent(0, 1));
        Check.badState(x, () -> x.addStudent(0, 1));
        Check.badState(x, () -> x.addStudent(3, 40));
        Check.same("students", 16, x.students());
    }

    // Promise 10: "Throws IllegalStateException if there are 16 students"
    static void p10_theLastStudentStaysInItsBand() {
        int[][] bandsAndTheFirst = {{1, 2, 0, 14}, {2, 1, 3, 15}};
        for (int[] bands : bandsAndTheFirst) {
            Office x = Office.with(1, 1, 14);
            x.addStudent(bands[0], 10);
            x.addStudent(bands[1], 10);
            x.wish(14, 0);
            x.wish(15, 0);
            Check.badState(x, () -> x.addStudent(bands[2], 10));
            x.runLottery(0);
            Check.yes("the lower band", x.isEnrolled(bands[3], 0));
        }
    }

    // Promise 10: "Throws IllegalStateException if there are 16 students"
    static void p10_theLastStudentKeepsItsLimit() {
        Office x = new Office();
        x.addCourse(1, 9, 0);
        x.addCourse(1, 10, 0);
        for (int s = 0; s < 16; s++) {
            x.addStudent(0, 9);
        }
        Check.badState(x, () -> x.addStudent(0, 8));
        Check.badState(x, () -> x.addStudent(0, 10));
        Check.same("9 of 9", NO_OBSTACLE, x.obstacle(15, 0));
        Check.same("10 of 9", CREDITS, x.obstacle(15, 1));
    }

    // Promise 11: "Records that a student passed a course in an earlier term, whatever it
    // requires"
    static void p11_whateverItRequires() {
        Office x = office();
        x.addPrerequisite(2, 1);
        x.pass(0, 2);
        Check.yes("passed", x.hasPassed(0, 2));
        Check.no("not what it requires", x.hasPassed(0, 1));
        Check.no("not the other student", x.hasPassed(1, 2));
        Check.same("obstacle", PASSED, x.obstacle(0, 2));
    }

    // Promise 11: "Records that a student passed a course in an earlier term, .."
    static void p11_neitherSeatsNorCreditsNorHoursMatter() {
        Office x = new Office();
        x.addCourse(0, 12, 1);
        x.addCourse(1, 1, 1);
        x.addStudent(0, 1);
        x.request(0, 1);
        Check.same("passed", 1, x.pass(0, 0));
        Check.same("credits", 1, x.credits(0));
        Check.same("enrolled", 0, x.enrolled(0));
    }

    // Promise 11: "Records that a student passed a course in an earlier term, .."
    static void p11_offersWhereAPrerequisiteWasMissing() {
        Office x = Office.with(2, 0, 1);
        x.request(0, 0);
        x.addPrerequisite(0, 1);
        x.setSeats(0, 1);
        Check.same("no offer yet", 0, x.offerDays(0, 0));
        x.pass(0, 1);
        Check.same("an offer", 3, x.offerDays(0, 0));
    }

    // Promise 11: "The course is taken out of the student's wishes, .."
    static void p11_takesTheCourseOutOfTheWishes() {
        for (int place = 0; place < 6; place++) {
            Office x = Office.with(6, 1, 2);
            for (int c = 0; c < 6; c++) {
                x.wish(0, c);
                x.wish(1, c);
            }
            x.pass(0, place);
            Check.same("wishes", 5, x.wishes(0));
            for (int left = 0; left < 5; left++) {
                Check.same("left", left < place ? left : left + 1, x.wishAt(0, left));
            }
            Check.same("of the other student", 6, x.wishes(1));
        }
    }

    // Promise 11: "The course is .. and the student leaves its waiting list .."
    static void p11_leavesTheWaitingListOfThisCourse() {
        Office x = Office.with(2, 0, 3);
        for (int s = 0; s < 3; s++) {
            x.request(s, 0);
            x.request(s, 1);
        }
        x.pass(1, 0);
        Check.same("waiting", 2, x.waiting(0));
        Check.same("first", 0, x.waitingAt(0, 0));
        Check.same("second", 2, x.waitingAt(0, 1));
        Check.same("on the other list still", 3, x.waiting(1));
    }

    // Promise 11: "The course is .. (an offer for it ends)"
    static void p11_anOfferForItEnds() {
        Office x = Office.with(2, 0, 2);
        x.request(0, 0);
        x.request(0, 1);
        x.request(1, 0);
        x.setSeats(0, 1);
        x.setSeats(1, 1);
        x.pass(0, 0);
        Check.same("no offer", 0, x.offerDays(0, 0));
        Check.same("the next one has it", 3, x.offerDays(1, 0));
        Check.same("the offer for another course stays", 3, x.offerDays(0, 1));
        x.pass(1, 0);
        Check.same("no longer held", 1, x.freeSeats(0));
    }

    // Promise 11: "Returns how many courses the student has passed then"
    static void p11_from1To20() {
        Office x = Office.with(20, 1, 2);
        for (int c = 0; c < 20; c++) {
            Check.same("passed", c + 1, x.pass(0, 19 - c));
        }
        Check.same("the other student", 1, x.pass(1, 0));
    }

    // Promise 11: "Throws IndexOutOfBoundsException if there is no such student or course"
    static void p11_noSuchStudentOrCourse() {
        Office x = office();
        Check.refusesUnknown(x, x::pass);
    }

    // Promise 11: "Throws IllegalStateException if the student has passed the course already, .."
    static void p11_notTwice() {
        Office x = office();
        x.pass(0, 0);
        Check.badState(x, () -> x.pass(0, 0));
        Check.same("the other student", 1, x.pass(1, 0));
        Check.badState(x, () -> x.pass(1, 0));
    }

    // Promise 11: "Throws IllegalStateException if .. is enrolled in it"
    static void p11_notWhenEnrolled() {
        Office x = office();
        x.request(0, 1);
        x.putUp(0, 1);
        Check.badState(x, () -> x.pass(0, 1));
        x.drop(0, 1);
        Check.same("after the drop", 1, x.pass(0, 1));
    }

    // Promise 12: "Returns the number of students"
    static void p12_from0To16() {
        Office x = new Office();
        for (int s = 0; s < 16; s++) {
            Check.same("students", s, x.students());
            x.addStudent(0, 1);
        }
        Check.same("students", 16, x.students());
        Check.badState(x, () -> x.addStudent(0, 1));
        Check.same("not one more", 16, x.students());
    }

    // Promise 13: "Tells whether a student has passed a course"
    static void p13_eachStudentAndCourseByItself() {
        Office x = Office.with(20, 1, 16);
        x.pass(15, 19);
        x.pass(0, 0);
        for (int c = 0; c < 20; c++) {
            Check.same("the last student", c == 19 ? 1 : 0, x.hasPassed(15, c) ? 1 : 0);
            Check.same("the first student", c == 0 ? 1 : 0, x.hasPassed(0, c) ? 1 : 0);
            Check.no("another one", x.hasPassed(7, c));
        }
    }

    // Promise 13: "Returns true if so"
    static void p13_trueOnlyIfPassed() {
        Office x = office();
        Check.no("nothing yet", x.hasPassed(0, 0));
        x.request(0, 1);
        Check.no("enrolled", x.hasPassed(0, 1));
        x.drop(0, 1);
        Check.no("dropped", x.hasPassed(0, 1));
        x.wish(0, 0);
        Check.no("wished", x.hasPassed(0, 0));
        x.pass(0, 0);
        Check.yes("passed", x.hasPassed(0, 0));
    }

    // Promise 13: "Throws IndexOutOfBoundsException if there is no such student or course"
    static void p13_noSuchStudentOrCourse() {
        Office x = office();
        x.pass(0, 0);
        Check.refusesUnknown(x, x::hasPassed);
    }

    // Promise 14: "Tells whether a student is enrolled in a course"
    static void p14_eachStudentAndCourseByItself() {
        Office x = Office.with(20, 1, 16);
        x.request(15, 19);
        x.request(0, 0);
        for (int c = 0; c < 20; c++) {
            Check.same("the last student", c == 19 ? 1 : 0, x.isEnrolled(15, c) ? 1 : 0);
            Check.same("the first student", c == 0 ? 1 : 0, x.isEnrolled(0, c) ? 1 : 0);
            Check.no("another one", x.isEnrolled(7, c));
        }
    }

    // Promise 14: "Returns true if so"
    static void p14_trueOnlyWhileEnrolled() {
        Office x = office();
        Check.no("nowhere", x.isEnrolled(0, 1));
        x.setSeats(1, 0);
        x.request(0, 1);
        Check.no("waiting", x.isEnrolled(0, 1));
        x.setSeats(1, 1);
        Check.no("offered", x.isEnrolled(0, 1));
        x.accept(0, 1);
        Check.yes("accepted", x.isEnrolled(0, 1));
        x.putUp(0, 1);
        Check.yes("put up", x.isEnrolled(0, 1));
        x.drop(0, 1);
        Check.no("dropped", x.isEnrolled(0, 1));
        x.pass(0, 1);
        Check.no("passed", x.isEnrolled(0, 1));
    }

    // Promise 14: "Throws IndexOutOfBoundsException if there is no such student or course"
    static void p14_noSuchStudentOrCourse() {
        Office x = office();
        x.request(0, 0);
        Check.refusesUnknown(x, x::isEnrolled);
    }

    // Promise 15: "Returns the credits of a student"
    static void p15_from0To40() {
        Office x = new Office();
        for (int c = 0; c < 4; c++) {
            x.addCourse(1, 10, 0);
        }
        x.addStudent(0, 40);
        x.addStudent(0, 40);
        for (int c = 0; c < 4; c++) {
            Check.same("credits", 10 * c, x.credits(0));
            x.request(0, c);
        }
        Check.same("the highest limit", 40, x.credits(0));
        Check.same("the other student", 0, x.credits(1));
    }

    // Promise 15: "Returns the credits of all courses in which the student is enrolled, added up"
    static void p15_onlyOfEnrolments() {
        Office x = new Office();
        x.addCourse(1, 3, 1);
        x.addCourse(1, 12, 2);
        x.addCourse(0, 5, 4);
        x.addStudent(0, 40);
        x.request(0, 0);
        x.request(0, 1);
        Check.same("both", 15, x.credits(0));
        x.request(0, 2);
        Check.same("waiting does not count", 15, x.credits(0));
        x.setSeats(2, 1);
        Check.same("an offer does not count", 15, x.credits(0));
        x.drop(0, 0);
        Check.same("one left", 12, x.credits(0));
        x.pass(0, 0);
        Check.same("passed does not count", 12, x.credits(0));
    }

    // Promise 15: "Throws IndexOutOfBoundsException if there is no such student"
    static void p15_noSuchStudent() {
        Office x = office();
        Check.refusesStudents(x, x::credits);
    }

    // Promise 16: "Returns how many of the courses that a course requires a student has not
    // passed"
    static void p16_countsAllThatIsRequired() {
        Office x = Office.with(5, 1, 2);
        x.addPrerequisite(3, 2);
        x.addPrerequisite(2, 1);
        x.addPrerequisite(3, 0);
        Check.same("three", 3, x.missing(0, 3));
        x.pass(0, 2);
        Check.same("what a passed one requires still counts", 2, x.missing(0, 3));
        x.request(0, 1);
        Check.same("to be enrolled is not to have passed", 2, x.missing(0, 3));
        x.pass(0, 0);
        x.pass(0, 4);
        Check.same("what is not required does not count", 1, x.missing(0, 3));
        Check.same("other student", 3, x.missing(1, 3));
    }

    // Promise 16: "Returns how many"
    static void p16_from19To0() {
        Office x = Office.with(20, 1, 1);
        for (int c = 1; c < 20; c++) {
            x.addPrerequisite(c, c - 1);
        }
        for (int c = 0; c < 20; c++) {
            Check.same("of a chain", c, x.missing(0, c));
        }
        for (int c = 0; c < 19; c++) {
            Check.same("left", 19 - c, x.missing(0, 19));
            x.pass(0, c);
        }
        Check.same("none left", 0, x.missing(0, 19));
        x.pass(0, 19);
        Check.same("of a passed one", 0, x.missing(0, 19));
    }

    // Promise 16: "Throws IndexOutOfBoundsException if there is no such student or course"
    static void p16_noSuchStudentOrCourse() {
        Office x = office();
        x.addPrerequisite(0, 1);
        Check.refusesUnknown(x, x::missing);
    }

    // Promise 17: "Returns the obstacle that keeps a student from taking a course"
    static void p17_eachObstacle() {
        Office x = office();
        x.addCourse(2, 7, 0);
        x.addCourse(2, 1, 1 | 1 << 29);
        x.addPrerequisite(2, 1);
        x.pass(1, 0);
        x.request(0, 0);
        Check.same("passed", PASSED, x.obstacle(1, 0));
        Check.same("enrolled", ENROLLED, x.obstacle(0, 0));
        Check.same("prerequisite", PREREQUISITE, x.obstacle(0, 2));
        Check.same("credits", CREDITS, x.obstacle(0, 3));
        Check.same("clash", CLASH, x.obstacle(0, 4));
        Check.same("other student", NO_OBSTACLE, x.obstacle(1, 4));
    }

    // Promise 17: "Returns PASSED, ENROLLED, PREREQUISITE, CREDITS or CLASH, the first one that
    // applies"
    static void p17_theFirstOneThatApplies() {
        Office x = new Office();
        x.addCourse(3, 5, 1);
        x.addCourse(3, 6, 1);
        x.addCourse(3, 1, 2);
        x.addStudent(0, 10);
        x.addStudent(0, 10);
        x.addPrerequisite(1, 2);
        x.request(0, 0);
        Check.same("three apply", PREREQUISITE, x.obstacle(0, 1));
        x.pass(0, 2);
        Check.same("two apply", CREDITS, x.obstacle(0, 1));
        x.pass(0, 1);
        Check.same("passed goes first", PASSED, x.obstacle(0, 1));
        x.request(1, 2);
        x.addCourse(1, 1, 0);
        x.addPrerequisite(2, 3);
        Check.same("enrolled before prerequisite", ENROLLED, x.obstacle(1, 2));
        Check.same("passed before it, too", PASSED, x.obstacle(0, 2));
    }

    // Promise 17: "Returns PASSED, ENROLLED, PREREQUISITE, CREDITS or CLASH, .."
    static void p17_aClashWithAnyCourseTaken() {
        Office x = new Office();
        for (int hours : new int[] {0b0011, 0b1100, 0b10010, 0b101000, 0b110000}) {
            x.addCourse(3, 1, hours);
        }
        x.addStudent(0, 10);
        x.request(0, 0);
        x.request(0, 1);
        Check.same("with the first", CLASH, x.obstacle(0, 2));
        Check.same("with the second", CLASH, x.obstacle(0, 3));
        Check.same("with none", NO_OBSTACLE, x.obstacle(0, 4));
    }

    // Promise 17: "Returns PASSED, ENROLLED, PREREQUISITE, CREDITS or CLASH, .."
    static void p17_allPrerequisitesMustBePassed() {
        Office x = office();
        x.addPrerequisite(2, 1);
        x.addPrerequisite(1, 0);
        x.pass(0, 1);
        Check.same("one is not", PREREQUISITE, x.obstacle(0, 2));
        x.request(0, 0);
        Check.same("enrolled is not passed", PREREQUISITE, x.obstacle(0, 2));
        x.drop(0, 0);
        x.pass(0, 0);
        Check.same("all are", NO_OBSTACLE, x.obstacle(0, 2));
    }

    // Promise 17: "NO_OBSTACLE if none does"
    static void p17_noneApplies() {
        Office x = new Office();
        x.addCourse(1, 6, 0b01);
        x.addCourse(1, 4, 0b10);
        x.addCourse(0, 4, 0b10);
        x.addStudent(0, 10);
        Check.same("nothing taken", NO_OBSTACLE, x.obstacle(0, 0));
        x.request(0, 0);
        Check.same("up to the limit, hours beside", NO_OBSTACLE, x.obstacle(0, 1));
        Check.same("no seats", NO_OBSTACLE, x.obstacle(0, 2));
        x.request(0, 2);
        Check.same("waiting", NO_OBSTACLE, x.obstacle(0, 2));
    }

    // Promise 17: "Throws IndexOutOfBoundsException if there is no such student or course"
    static void p17_noSuchStudentOrCourse() {
        Office x = office();
        Check.refusesUnknown(x, x::obstacle);
    }
}
