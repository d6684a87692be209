/** Promises 22 to 24: enrolling single students. */
final class EnrolTests {
    private static final int LOW = Integer.MIN_VALUE;
    private static final int HIGH = Integer.MAX_VALUE;
    private static final int[] NO_STUDENTS = {-1, 4, 16, LOW, HIGH};
    private static final int[] NO_COURSES = {-1, 4, 20, LOW, HIGH};

    private EnrolTests() {
    }

    /** Four courses of one seat, 4 credits and an hour each, four students of limit 12. */
    private static CourseEnrolment office() {
        CourseEnrolment x = new CourseEnrolment();
        for (int c = 0; c < 4; c++) {
            x.addCourse(1, 4, 1 << c);
        }
        for (int s = 0; s < 4; s++) {
            x.addStudent(0, 12);
        }
        return x;
    }

    static void p22_aFreeSeatEnrols() {
        CourseEnrolment x = office();
        x.wish(0, 2);
        x.wish(0, 1);
        Check.same("enrolled", 0, x.request(0, 2));
        Check.yes("is enrolled", x.isEnrolled(0, 2));
        Check.same("waiting", 0, x.waiting(2));
        Check.same("the wish is gone", 1, x.wishes(0));
        Check.same("the other stays", 1, x.wishAt(0, 0));
    }

    static void p22_withoutOneTheStudentWaits() {
        CourseEnrolment x = office();
        x.request(3, 0);
        x.wish(1, 0);
        Check.same("first", 1, x.request(1, 0));
        Check.same("second", 2, x.request(0, 0));
        Check.same("third", 3, x.request(2, 0));
        Check.no("not enrolled", x.isEnrolled(1, 0));
        Check.same("at 0", 1, x.waitingAt(0, 0));
        Check.same("at 1", 0, x.waitingAt(0, 1));
        Check.same("at 2", 2, x.waitingAt(0, 2));
        Check.same("the wish stays", 1, x.wishes(1));
        Check.same("no offer", 0, x.offerDays(1, 0));
    }

    static void p22_thoseWithAnOfferAreCounted() {
        CourseEnrolment x = office();
        x.request(0, 0);
        x.request(1, 0);
        x.drop(0, 0);
        Check.same("an offer", 3, x.offerDays(1, 0));
        Check.same("held for another one", 2, x.request(2, 0));
        Check.same("once more", 3, x.request(0, 0));
    }

    static void p22_passesByThoseWithObstacles() {
        CourseEnrolment x = office();
        x.setSeats(0, 0);
        x.request(0, 0);
        x.request(1, 0);
        x.addPrerequisite(0, 3);
        x.pass(2, 3);
        x.setSeats(0, 1);
        Check.same("free", 1, x.freeSeats(0));
        Check.same("enrolled", 0, x.request(2, 0));
        Check.same("still waiting", 2, x.waiting(0));
        Check.same("free", 0, x.freeSeats(0));
    }

    static void p22_notWithAnObstacle() {
        CourseEnrolment x = office();
        x.addCourse(1, 12, 0);
        x.addCourse(1, 1, 1);
        x.addPrerequisite(1, 3);
        x.pass(0, 2);
        x.request(0, 0);
        for (int c : new int[] {2, 0, 1, 4, 5}) {
            Check.badState(x, () -> x.request(0, c));
        }
        x.setSeats(4, 0);
        Check.badState(x, () -> x.request(0, 4));
    }

    static void p22_notTwiceOnTheWaitingList() {
        CourseEnrolment x = office();
        x.request(0, 0);
        x.request(1, 0);
        Check.badState(x, () -> x.request(1, 0));
        x.drop(0, 0);
        Check.same("an offer", 3, x.offerDays(1, 0));
        Check.badState(x, () -> x.request(1, 0));
        x.setSeats(0, 5);
        Check.badState(x, () -> x.request(1, 0));
        x.leave(1, 0);
        Check.same("again", 0, x.request(1, 0));
    }

    static void p22_all16MayWait() {
        CourseEnrolment x = new CourseEnrolment();
        x.addCourse(0, 1, 0);
        for (int s = 0; s < 16; s++) {
            x.addStudent(0, 9);
            Check.same("waiting", s + 1, x.request(s, 0));
        }
        Check.same("waiting", 16, x.waiting(0));
        Check.same("the last one", 15, x.waitingAt(0, 15));
        x.setSeats(0, 16);
        Check.same("all have offers", 3, x.offerDays(15, 0));
        Check.same("free", 0, x.freeSeats(0));
        Check.same("all expire", 16, x.advance(3));
        Check.same("nobody waits", 0, x.waiting(0));
    }

    static void p22_wrongArguments() {
        CourseEnrolment x = office();
        for (int s : NO_STUDENTS) {
            Check.noSuch(x, () -> x.request(s, 0));
            Check.noSuch(x, () -> x.request(s, 4));
        }
        for (int c : NO_COURSES) {
            Check.noSuch(x, () -> x.request(0, c));
        }
    }

    static void p23_returnsTheCreditsLeft() {
        CourseEnrolment x = office();
        x.request(0, 0);
        x.request(0, 1);
        Check.same("left", 4, x.drop(0, 0));
        Check.no("ended", x.isEnrolled(0, 0));
        Check.yes("the other one stays", x.isEnrolled(0, 1));
        Check.same("none left", 0, x.drop(0, 1));
        Check.same("no wish", 0, x.wishes(0));
        Check.same("free", 1, x.freeSeats(0));
    }

    static void p23_theFirstOnTheListGetsTheOffer() {
        CourseEnrolment x = office();
        x.request(0, 0);
        x.request(2, 0);
        x.request(1, 0);
        x.drop(0, 0);
        Check.same("first", 3, x.offerDays(2, 0));
        Check.same("second", 0, x.offerDays(1, 0));
        Check.no("no enrolment", x.isEnrolled(2, 0));
    }

    static void p23_offersWhereTheObstacleEnds() {
        CourseEnrolment x = office();
        x.addCourse(0, 5, 0);
        x.addCourse(0, 1, 1);
        x.request(0, 4);
        x.request(0, 5);
        x.request(0, 0);
        x.request(0, 1);
        x.setSeats(4, 1);
        x.setSeats(5, 1);
        Check.same("too many credits", 0, x.offerDays(0, 4));
        Check.same("a clash", 0, x.offerDays(0, 5));
        x.drop(0, 0);
        Check.same("credits", 3, x.offerDays(0, 4));
        Check.same("hours", 3, x.offerDays(0, 5));
    }

    static void p23_takesDownThePlacePutUp() {
        CourseEnrolment x = office();
        x.request(0, 0);
        x.request(0, 1);
        x.putUp(0, 0);
        x.drop(0, 1);
        Check.same("another course", 0, x.placeUp(0));
        x.drop(0, 0);
        Check.same("withdrawn", CourseEnrolment.NONE, x.placeUp(0));
        x.request(0, 0);
        Check.same("and stays so", CourseEnrolment.NONE, x.placeUp(0));
    }

    static void p23_onlyWhenEnrolled() {
        CourseEnrolment x = office();
        x.request(0, 0);
        x.request(1, 0);
        x.pass(2, 0);
        Check.badState(x, () -> x.drop(1, 0));
        Check.badState(x, () -> x.drop(2, 0));
        Check.badState(x, () -> x.drop(3, 0));
        Check.badState(x, () -> x.drop(0, 1));
        x.drop(0, 0);
        Check.badState(x, () -> x.drop(0, 0));
        Check.badState(x, () -> x.drop(1, 0));
        for (int s : NO_STUDENTS) {
            Check.noSuch(x, () -> x.drop(s, 0));
            Check.noSuch(x, () -> x.drop(s, 4));
        }
        for (int c : NO_COURSES) {
            Check.noSuch(x, () -> x.drop(0, c));
        }
    }

    static void p24_endsOneAndEnrolsInTheOther() {
        CourseEnrolment x = office();
        x.request(0, 0);
        x.request(0, 2);
        x.wish(0, 3);
        x.wish(0, 1);
        Check.same("credits", 8, x.change(0, 0, 1));
        Check.no("left", x.isEnrolled(0, 0));
        Check.yes("taken", x.isEnrolled(0, 1));
        Check.yes("untouched", x.isEnrolled(0, 2));
        Check.same("wishes", 1, x.wishes(0));
        Check.same("the other wish", 3, x.wishAt(0, 0));
        Check.same("free", 1, x.freeSeats(0));
        Check.same("taken", 0, x.freeSeats(1));
    }

    static void p24_returnsTheCreditsOfAllThen() {
        CourseEnrolment x = office();
        x.addCourse(1, 7, 0);
        x.request(0, 0);
        x.request(0, 1);
        Check.same("4 and 7", 11, x.change(0, 1, 4));
        Check.same("4 and 4", 8, x.change(0, 4, 1));
    }

    static void p24_asIfNotEnrolledInTheFirst() {
        CourseEnrolment x = new CourseEnrolment();
        x.addCourse(1, 6, 1);
        x.addCourse(1, 6, 1);
        x.addCourse(1, 7, 3);
        x.addCourse(1, 4, 2);
        x.addStudent(0, 10);
        x.request(0, 0);
        x.request(0, 3);
        Check.same("a clash with the first alone", 10, x.change(0, 0, 1));
        Check.same("credits", CourseEnrolment.CREDITS, x.obstacle(0, 0));
        Check.badState(x, () -> x.change(0, 1, 2));
        x.drop(0, 3);
        Check.same("up to the limit", 7, x.change(0, 1, 2));
    }

    static void p24_otherObstaclesStay() {
        CourseEnrolment x = office();
        x.addCourse(1, 4, 0b10100);
        x.addPrerequisite(1, 3);
        x.pass(0, 3);
        x.request(0, 0);
        x.request(0, 2);
        x.request(1, 1 + 2);
        Check.badState(x, () -> x.change(0, 0, 3));
        Check.badState(x, () -> x.change(0, 0, 2));
        Check.badState(x, () -> x.change(0, 0, 4));
        Check.badState(x, () -> x.change(1, 3, 1));
        Check.same("with the first one out of the way", 8, x.change(0, 2, 4));
    }

    static void p24_theCourseLeftIsNoPrerequisite() {
        CourseEnrolment x = office();
        x.addPrerequisite(1, 0);
        x.request(0, 0);
        Check.badState(x, () -> x.change(0, 0, 1));
    }

    static void p24_onlyFromACourseOfOnesOwnToAnother() {
        CourseEnrolment x = office();
        x.setSeats(0, 2);
        x.request(0, 0);
        Check.badState(x, () -> x.change(0, 1, 2));
        Check.badState(x, () -> x.change(1, 0, 2));
        Check.badState(x, () -> x.change(0, 0, 0));
        Check.badState(x, () -> x.change(0, 1, 1));
    }

    static void p24_onlyToAFreeSeat() {
        CourseEnrolment x = office();
        x.request(0, 0);
        x.request(1, 1);
        Check.badState(x, () -> x.change(0, 0, 1));
        x.request(0, 1);
        x.drop(1, 1);
        Check.same("held for this student", 3, x.offerDays(0, 1));
        Check.badState(x, () -> x.change(0, 0, 1));
        Check.badState(x, () -> x.change(0, 0, 0));
    }

    static void p24_endsWaitingAndOfferOfTheCourseTaken() {
        CourseEnrolment x = office();
        x.setSeats(1, 0);
        x.request(0, 0);
        x.request(0, 1);
        x.setSeats(1, 2);
        Check.same("an offer", 3, x.offerDays(0, 1));
        Check.same("and a free seat", 1, x.freeSeats(1));
        Check.same("credits", 4, x.change(0, 0, 1));
        Check.same("no offer", 0, x.offerDays(0, 1));
        Check.same("nobody waits", 0, x.waiting(1));
        Check.same("the seat is no longer held", 1, x.freeSeats(1));
    }

    static void p24_offersOfTheCourseLeft() {
        CourseEnrolment x = office();
        x.request(0, 0);
        x.request(1, 0);
        x.change(0, 0, 1);
        Check.same("an offer", 3, x.offerDays(1, 0));
        Check.same("no free seat", 0, x.freeSeats(0));
    }

    static void p24_theSeatHeldGoesToTheNext() {
        CourseEnrolment x = office();
        x.setSeats(1, 0);
        x.request(0, 0);
        x.request(0, 1);
        x.request(2, 1);
        x.request(3, 1);
        x.setSeats(1, 1);
        x.request(2, 2);
        Check.same("the first has the offer", 3, x.offerDays(0, 1));
        x.addPrerequisite(1, 3);
        x.setSeats(1, 2);
        Check.same("the others may not", 1, x.freeSeats(1));
        Check.badState(x, () -> x.change(0, 0, 1));
        x.pass(0, 3);
        x.change(0, 0, 1);
        Check.same("free", 1, x.freeSeats(1));
        x.pass(3, 3);
        Check.same("the next without an obstacle", 3, x.offerDays(3, 1));
        Check.same("not the one before", 0, x.offerDays(2, 1));
    }

    static void p24_takesDownThePlacePutUp() {
        CourseEnrolment x = office();
        x.request(0, 0);
        x.request(0, 2);
        x.putUp(0, 0);
        x.change(0, 2, 3);
        Check.same("another course", 0, x.placeUp(0));
        x.change(0, 0, 1);
        Check.same("withdrawn", CourseEnrolment.NONE, x.placeUp(0));
    }

    static void p24_wrongArguments() {
        CourseEnrolment x = office();
        x.request(0, 0);
        for (int s : NO_STUDENTS) {
            Check.noSuch(x, () -> x.change(s, 0, 1));
            Check.noSuch(x, () -> x.change(s, 4, 4));
        }
        for (int c : NO_COURSES) {
            Check.noSuch(x, () -> x.change(0, c, 1));
            Check.noSuch(x, () -> x.change(0, 0, c));
            Check.noSuch(x, () -> x.change(0, 2, c));
            Check.noSuch(x, () -> x.change(0, c, c));
        }
    }
}
