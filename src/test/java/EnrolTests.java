/** Promises 22 to 24: enrolling single students. */
final class EnrolTests {
    private static final int NONE = CourseEnrolment.NONE;

    private EnrolTests() {
    }

    /** Four courses of one seat, 4 credits and an hour each, four students of limit 12. */
    private static Office office() {
        Office x = new Office();
        for (int c = 0; c < 4; c++) {
            x.addCourse(1, 4, 1 << c);
        }
        for (int s = 0; s < 4; s++) {
            x.addStudent(0, 12);
        }
        return x;
    }

    /** Student 0 has courses 0 and 2 of hours 0 and 2, and each obstacle for another course. */
    private static Office withAllObstacles() {
        Office x = office();
        x.addCourse(1, 12, 0);
        x.addCourse(1, 1, 0b101);
        x.addCourse(1, 1, 0);
        x.addPrerequisite(1, 3);
        x.pass(0, 6);
        x.request(0, 0);
        x.request(0, 2);
        Check.same("passed", CourseEnrolment.PASSED, x.obstacle(0, 6));
        Check.same("enrolled", CourseEnrolment.ENROLLED, x.obstacle(0, 2));
        Check.same("prerequisite", CourseEnrolment.PREREQUISITE, x.obstacle(0, 1));
        Check.same("credits", CourseEnrolment.CREDITS, x.obstacle(0, 4));
        Check.same("clash", CourseEnrolment.CLASH, x.obstacle(0, 5));
        return x;
    }

    // Promise 22: "Asks for a place in a course: if it has a free seat, the student is enrolled,
    // .."
    static void p22_aFreeSeatEnrols() {
        Office x = office();
        x.wish(0, 2);
        x.wish(0, 1);
        Check.same("enrolled", 0, x.request(0, 2));
        Check.yes("is enrolled", x.isEnrolled(0, 2));
        Check.same("waiting", 0, x.waiting(2));
        Check.same("free", 0, x.freeSeats(2));
        Check.same("the wish is gone", 1, x.wishes(0));
        Check.same("the other stays", 1, x.wishAt(0, 0));
    }

    // Promise 22: "Asks for a place in a course: if it has a free seat, the student is enrolled,
    // .."
    static void p22_downToTheLastSeat() {
        Office x = Office.with(1, 15, 16);
        for (int s = 0; s < 15; s++) {
            Check.same("enrolled", 0, x.request(s, 0));
        }
        Check.same("no seat for the last one", 1, x.request(15, 0));
        Check.no("enrolled", x.isEnrolled(15, 0));
    }

    // Promise 22: "Asks for a place in a course: .. also if others are on its waiting list (they
    // have offers .. then)"
    static void p22_passesByThoseWithOffers() {
        Office x = office();
        x.setSeats(0, 0);
        x.request(0, 0);
        x.request(1, 0);
        x.setSeats(0, 3);
        Check.same("two held, one free", 1, x.freeSeats(0));
        Check.same("enrolled", 0, x.request(2, 0));
        Check.yes("enrolled", x.isEnrolled(2, 0));
        Check.same("still waiting", 2, x.waiting(0));
        Check.same("still held", 3, x.offerDays(1, 0));
        Check.same("no seat", 3, x.request(3, 0));
    }

    // Promise 22: "Asks for a place in a course: .. also if others are on its waiting list (they
    // have .. obstacles then)"
    static void p22_passesByThoseWithObstacles() {
        Office x = office();
        x.setSeats(0, 0);
        x.request(0, 0);
        x.request(1, 0);
        x.addPrerequisite(0, 3);
        x.pass(2, 3);
        x.setSeats(0, 1);
        Check.same("free", 1, x.freeSeats(0));
        Check.same("enrolled", 0, x.request(2, 0));
        Check.same("still waiting", 2, x.waiting(0));
        Check.same("none free", 0, x.freeSeats(0));
    }

    // Promise 22: "otherwise the student joins the end of its waiting list"
    static void p22_withoutASeatTheStudentWaits() {
        Office x = office();
        x.request(3, 0);
        x.wish(1, 0);
        x.request(1, 0);
        x.request(0, 0);
        x.request(2, 0);
        Check.no("not enrolled", x.isEnrolled(1, 0));
        Check.same("at 0", 1, x.waitingAt(0, 0));
        Check.same("at 1", 0, x.waitingAt(0, 1));
        Check.same("at 2", 2, x.waitingAt(0, 2));
        Check.same("the wish stays", 1, x.wishes(1));
        Check.same("no offer", 0, x.offerDays(1, 0));
        Check.same("no credits", 0, x.credits(1));
    }

    // Promise 22: "otherwise the student joins the end of its waiting list"
    static void p22_whereAllSeatsAreHeldTheStudentWaits() {
        Office x = office();
        x.request(0, 0);
        x.request(1, 0);
        x.drop(0, 0);
        Check.same("held for another one", 3, x.offerDays(1, 0));
        x.request(2, 0);
        Check.no("not enrolled", x.isEnrolled(2, 0));
        Check.same("at the end", 2, x.waitingAt(0, 1));
        x.request(0, 0);
        Check.same("once more at the end", 0, x.waitingAt(0, 2));
    }

    // Promise 22: "Returns 0 if the student is enrolled now"
    static void p22_returns0WhenEnrolled() {
        Office x = Office.with(1, 16, 16);
        for (int s = 0; s < 16; s++) {
            Check.same("enrolled", 0, x.request(s, 0));
            Check.yes("enrolled", x.isEnrolled(s, 0));
        }
    }

    // Promise 22: "otherwise how many students are on the waiting list then"
    static void p22_returns1To16WhenWaiting() {
        Office x = Office.with(1, 0, 16);
        for (int s = 0; s < 16; s++) {
            Check.same("waiting", s + 1, x.request(s, 0));
        }
        Check.same("waiting", 16, x.waiting(0));
        x.leave(0, 0);
        Check.same("again", 16, x.request(0, 0));
    }

    // Promise 22: "otherwise how many students are on the waiting list then"
    static void p22_thoseWithAnOfferAreCounted() {
        Office x = office();
        x.request(0, 0);
        x.request(1, 0);
        x.drop(0, 0);
        Check.same("an offer", 3, x.offerDays(1, 0));
        Check.same("the second", 2, x.request(2, 0));
        Check.same("the third", 3, x.request(0, 0));
    }

    // Promise 22: "Throws IndexOutOfBoundsException if there is no such student or course"
    static void p22_noSuchStudentOrCourse() {
        Office x = office();
        Check.refusesUnknown(x, x::request);
    }

    // Promise 22: "Throws IllegalStateException if there is an obstacle, .."
    static void p22_notWithAnyObstacle() {
        Office x = withAllObstacles();
        for (int c : new int[] {6, 2, 1, 4, 5}) {
            Check.badState(x, () -> x.request(0, c));
        }
        Check.same("without one", 0, x.request(0, 3));
    }

    // Promise 22: "Throws IllegalStateException if there is an obstacle, .."
    static void p22_notEvenToWait() {
        Office x = withAllObstacles();
        for (int c : new int[] {6, 1, 4, 5}) {
            x.setSeats(c, 0);
            Check.badState(x, () -> x.request(0, c));
            Check.same("nobody waits", 0, x.waiting(c));
        }
    }

    // Promise 22: "Throws IllegalStateException if .. the student is on the waiting list of the
    // course"
    static void p22_notTwiceOnTheWaitingList() {
        Office x = office();
        x.request(0, 0);
        x.request(1, 0);
        Check.badState(x, () -> x.request(1, 0));
        x.drop(0, 0);
        Check.same("an offer", 3, x.offerDays(1, 0));
        Check.badState(x, () -> x.request(1, 0));
        x.setSeats(0, 5);
        Check.same("free seats beside it", 4, x.freeSeats(0));
        Check.badState(x, () -> x.request(1, 0));
        x.leave(1, 0);
        Check.same("off the list", 0, x.request(1, 0));
    }

    // Promise 23: "Ends an enrolment"
    static void p23_endsThisEnrolmentOnly() {
        Office x = office();
        x.setSeats(0, 2);
        x.request(0, 0);
        x.request(0, 1);
        x.request(1, 0);
        x.drop(0, 0);
        Check.no("ended", x.isEnrolled(0, 0));
        Check.yes("the other course", x.isEnrolled(0, 1));
        Check.yes("the other student", x.isEnrolled(1, 0));
        Check.same("free", 1, x.freeSeats(0));
        Check.same("no wish", 0, x.wishes(0));
        Check.no("not passed", x.hasPassed(0, 0));
    }

    // Promise 23: "Ends an enrolment"
    static void p23_theFirstOnTheListGetsTheOffer() {
        Office x = office();
        x.request(0, 0);
        x.request(2, 0);
        x.request(1, 0);
        x.drop(0, 0);
        Check.same("first", 3, x.offerDays(2, 0));
        Check.same("second", 0, x.offerDays(1, 0));
        Check.no("no enrolment", x.isEnrolled(2, 0));
    }

    // Promise 23: "Ends an enrolment"
    static void p23_offersWhereTheObstacleEnds() {
        Office x = office();
        x.addCourse(0, 5, 0);
        x.addCourse(0, 1, 1);
        x.request(0, 4);
        x.request(0, 5);
        x.request(0, 0);
        x.request(0, 1);
        x.setSeats(4, 1);
        x.setSeats(5, 1);
        Check.same("too many credits", 0, x.offerDays(0, 4));
        Check.same("a clash", 0, x.offerDays(0, 5));
        x.drop(0, 0);
        Check.same("credits", 3, x.offerDays(0, 4));
        Check.same("hours", 3, x.offerDays(0, 5));
    }

    // Promise 23: "Ends an enrolment"
    static void p23_takesDownThePlacePutUp() {
        Office x = office();
        x.request(0, 0);
        x.request(0, 1);
        x.putUp(0, 0);
        x.drop(0, 1);
        Check.same("another course", 0, x.placeUp(0));
        x.drop(0, 0);
        Check.same("withdrawn", NONE, x.placeUp(0));
    }

    // Promise 23: "Returns the credits of the student then"
    static void p23_returnsTheCreditsLeft() {
        Office x = office();
        x.addCourse(1, 3, 0);
        x.request(0, 0);
        x.request(0, 1);
        x.request(0, 4);
        Check.same("4 and 4", 8, x.drop(0, 4));
        Check.same("4", 4, x.drop(0, 0));
        Check.same("none", 0, x.drop(0, 1));
    }

    // Promise 23: "Throws IndexOutOfBoundsException if there is no such student or course"
    static void p23_noSuchStudentOrCourse() {
        Office x = office();
        x.request(0, 0);
        Check.refusesUnknown(x, x::drop);
    }

    // Promise 23: "Throws IllegalStateException if the student is not enrolled in the course"
    static void p23_onlyWhenEnrolled() {
        Office x = office();
        x.request(0, 0);
        x.request(1, 0);
        x.pass(2, 0);
        x.wish(3, 0);
        Check.badState(x, () -> x.drop(1, 0));
        Check.badState(x, () -> x.drop(2, 0));
        Check.badState(x, () -> x.drop(3, 0));
        Check.badState(x, () -> x.drop(0, 1));
        x.drop(0, 0);
        Check.same("an offer", 3, x.offerDays(1, 0));
        Check.badState(x, () -> x.drop(0, 0));
        Check.badState(x, () -> x.drop(1, 0));
    }

    // Promise 24: "Ends the enrolment in one course and enrols the student in another one, at
    // once: .."
    static void p24_endsOneAndEnrolsInTheOther() {
        Office x = office();
        x.request(0, 0);
        x.request(0, 2);
        x.wish(0, 3);
        x.wish(0, 1);
        x.change(0, 0, 1);
        Check.no("left", x.isEnrolled(0, 0));
        Check.yes("taken", x.isEnrolled(0, 1));
        Check.yes("untouched", x.isEnrolled(0, 2));
        Check.same("wishes", 1, x.wishes(0));
        Check.same("the other wish", 3, x.wishAt(0, 0));
        Check.same("free", 1, x.freeSeats(0));
        Check.same("taken", 0, x.freeSeats(1));
    }

    // Promise 24: "Ends the enrolment in one course and enrols the student in another one, at
    // once: .."
    static void p24_endsWaitingAndOfferOfTheCourseTaken() {
        Office x = office();
        x.setSeats(1, 0);
        x.request(0, 0);
        x.request(0, 1);
        x.setSeats(1, 2);
        Check.same("an offer", 3, x.offerDays(0, 1));
        Check.same("and a free seat", 1, x.freeSeats(1));
        x.change(0, 0, 1);
        Check.same("no offer", 0, x.offerDays(0, 1));
        Check.same("nobody waits", 0, x.waiting(1));
        Check.same("the seat is no longer held", 1, x.freeSeats(1));
    }

    // Promise 24: "Ends the enrolment in one course and enrols the student in another one, at
    // once: .."
    static void p24_theSeatLeftIsOffered() {
        Office x = office();
        x.request(0, 0);
        x.request(1, 0);
        x.change(0, 0, 1);
        Check.same("an offer", 3, x.offerDays(1, 0));
        Check.same("no free seat", 0, x.freeSeats(0));
    }

    // Promise 24: "Ends the enrolment in one course and enrols the student in another one, at
    // once: .."
    static void p24_noOfferForWhatFitsOnlyInBetween() {
        Office x = office();
        x.addCourse(0, 8, 1);
        x.request(0, 4);
        x.request(0, 0);
        x.setSeats(4, 1);
        x.addCourse(1, 5, 0);
        Check.same("a clash with course 0", 0, x.offerDays(0, 4));
        x.change(0, 0, 5);
        Check.same("too many credits with course 5", 0, x.offerDays(0, 4));
    }

    // Promise 24: "Ends the enrolment in one course and enrols the student in another one, at
    // once: .."
    static void p24_takesDownThePlacePutUp() {
        Office x = office();
        x.request(0, 0);
        x.request(0, 2);
        x.putUp(0, 0);
        x.change(0, 2, 3);
        Check.same("another course", 0, x.placeUp(0));
        x.change(0, 0, 1);
        Check.same("withdrawn", NONE, x.placeUp(0));
    }

    // Promise 24: "Ends the enrolment .. the obstacle is determined as if the student was not
    // enrolled in the first one"
    static void p24_neitherCreditsNorHoursOfTheFirstCount() {
        Office x = new Office();
        x.addCourse(1, 6, 1);
        x.addCourse(1, 6, 1);
        x.addCourse(1, 7, 3);
        x.addCourse(1, 4, 2);
        x.addStudent(0, 10);
        x.request(0, 0);
        x.request(0, 3);
        Check.same("obstacle", CourseEnrolment.CREDITS, x.obstacle(0, 1));
        Check.same("without the first", 10, x.change(0, 0, 1));
        Check.badState(x, () -> x.change(0, 1, 2));
        x.drop(0, 3);
        Check.same("with the first", CourseEnrolment.CREDITS, x.obstacle(0, 2));
        Check.same("without the first", 7, x.change(0, 1, 2));
    }

    // Promise 24: "Ends the enrolment .. the obstacle is determined as if the student was not
    // enrolled in the first one"
    static void p24_upToTheLimit() {
        for (int credits = 7; credits <= 9; credits++) {
            Office x = office();
            x.addCourse(1, credits, 0);
            x.request(0, 0);
            x.request(0, 1);
            if (credits <= 8) {
                Check.same("up to 12", 4 + credits, x.change(0, 0, 4));
            } else {
                Check.badState(x, () -> x.change(0, 0, 4));
            }
        }
    }

    // Promise 24: "Returns the credits of the student then"
    static void p24_returnsTheCreditsOfAllThen() {
        Office x = office();
        x.addCourse(1, 7, 0);
        x.request(0, 0);
        x.request(0, 1);
        Check.same("4 and 7", 11, x.change(0, 1, 4));
        Check.same("4 and 4", 8, x.change(0, 4, 1));
        x.drop(0, 0);
        Check.same("7 alone", 7, x.change(0, 1, 4));
    }

    // Promise 24: "Throws IndexOutOfBoundsException if there is no such student or course"
    static void p24_noSuchStudentOrCourse() {
        Office x = office();
        x.request(0, 0);
        Check.refusesStudents(x, s -> x.change(s, 0, 1));
        Check.refusesStudents(x, s -> x.change(s, 4, 4));
        Check.refusesCourses(x, c -> x.change(0, c, 1));
        Check.refusesCourses(x, c -> x.change(0, 0, c));
        Check.refusesCourses(x, c -> x.change(0, 2, c));
        Check.refusesCourses(x, c -> x.change(0, c, c));
    }

    // Promise 24: "Throws IllegalStateException if the student is not enrolled in from, .."
    static void p24_onlyFromACourseOfOnesOwn() {
        Office x = office();
        x.request(0, 0);
        x.request(1, 0);
        x.pass(0, 3);
        Check.badState(x, () -> x.change(0, 1, 2));
        Check.badState(x, () -> x.change(0, 3, 2));
        Check.badState(x, () -> x.change(1, 0, 2));
        x.drop(0, 0);
        Check.same("an offer", 3, x.offerDays(1, 0));
        Check.badState(x, () -> x.change(1, 0, 2));
        Check.badState(x, () -> x.change(0, 0, 2));
    }

    // Promise 24: "Throws IllegalStateException if .. both are the same course, .."
    static void p24_notToTheSameCourse() {
        Office x = office();
        x.setSeats(0, 2);
        x.request(0, 0);
        Check.same("a free seat", 1, x.freeSeats(0));
        Check.badState(x, () -> x.change(0, 0, 0));
        Check.badState(x, () -> x.change(0, 1, 1));
    }

    // Promise 24: "Throws IllegalStateException if .. there is an obstacle for to, .."
    static void p24_notWithAnyObstacle() {
        Office x = withAllObstacles();
        x.setSeats(2, 2);
        for (int c : new int[] {6, 2, 1, 4, 5}) {
            Check.badState(x, () -> x.change(0, 0, c));
        }
        Check.same("without one", 8, x.change(0, 0, 3));
    }

    // Promise 24: "Throws IllegalStateException if .. there is an obstacle for to, .."
    static void p24_theCourseLeftIsNoPrerequisite() {
        Office x = office();
        x.addPrerequisite(1, 0);
        x.request(0, 0);
        Check.badState(x, () -> x.change(0, 0, 1));
    }

    // Promise 24: "Throws IllegalStateException if .. to has no free seat .."
    static void p24_notToAFullCourse() {
        Office x = office();
        x.request(0, 0);
        x.request(1, 1);
        Check.badState(x, () -> x.change(0, 0, 1));
        x.setSeats(2, 0);
        Check.badState(x, () -> x.change(0, 0, 2));
        x.request(2, 1);
        x.drop(1, 1);
        Check.same("held for another one", 3, x.offerDays(2, 1));
        Check.badState(x, () -> x.change(0, 0, 1));
        x.setSeats(1, 2);
        Check.same("the last free seat", 4, x.change(0, 0, 1));
    }

    // Promise 24: "Throws IllegalStateException if .. to has no free seat (a seat that is held
    // for this student is not free)"
    static void p24_notToASeatThatIsHeldForThisStudent() {
        Office x = office();
        x.request(0, 0);
        x.request(1, 1);
        x.request(0, 1);
        x.drop(1, 1);
        Check.same("held for this student", 3, x.offerDays(0, 1));
        Check.badState(x, () -> x.change(0, 0, 1));
        x.setSeats(1, 2);
        Check.same("a free one beside it", 4, x.change(0, 0, 1));
    }

    // Promise 24: "Ends the enrolment in one course and enrols the student in another one, at
    // once: .."
    static void p24_theSeatHeldGoesToTheNext() {
        Office x = office();
        x.setSeats(1, 0);
        x.request(0, 0);
        x.request(0, 1);
        x.request(2, 1);
        x.request(3, 1);
        x.setSeats(1, 1);
        Check.same("the first has the offer", 3, x.offerDays(0, 1));
        x.addPrerequisite(1, 3);
        x.setSeats(1, 2);
        Check.same("the others may not", 1, x.freeSeats(1));
        Check.badState(x, () -> x.change(0, 0, 1));
        x.pass(0, 3);
        x.change(0, 0, 1);
        Check.same("free", 1, x.freeSeats(1));
        x.pass(3, 3);
        Check.same("the next without an obstacle", 3, x.offerDays(3, 1));
        Check.same("not the one before", 0, x.offerDays(2, 1));
    }
}
