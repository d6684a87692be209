/** Promises 25 to 31: waiting lists and days. */
final class WaitingTests {
    private static final int LOW = Integer.MIN_VALUE;
    private static final int HIGH = Integer.MAX_VALUE;
    private static final int[] NO_STUDENTS = {-1, 4, 16, LOW, HIGH};
    private static final int[] NO_COURSES = {-1, 3, 20, LOW, HIGH};

    private WaitingTests() {
    }

    /** Three courses of no seats, 4 credits and an hour each, four students of limit 12. */
    private static CourseEnrolment office() {
        CourseEnrolment x = new CourseEnrolment();
        for (int c = 0; c < 3; c++) {
            x.addCourse(0, 4, 1 << c);
        }
        for (int s = 0; s < 4; s++) {
            x.addStudent(0, 12);
        }
        return x;
    }

    /** The office with the students 2, 0 and 1 on the list of course 0, 2 with an offer. */
    private static CourseEnrolment withOffer() {
        CourseEnrolment x = office();
        x.request(2, 0);
        x.request(0, 0);
        x.request(1, 0);
        x.setSeats(0, 1);
        return x;
    }

    static void p25_enrolsTheOneWithTheOffer() {
        CourseEnrolment x = withOffer();
        x.wish(2, 1);
        x.wish(2, 0);
        x.setSeats(2, 1);
        x.request(2, 2);
        Check.same("credits", 8, x.accept(2, 0));
        Check.yes("enrolled", x.isEnrolled(2, 0));
        Check.same("the wish is gone", 1, x.wishes(2));
        Check.same("the other wish", 1, x.wishAt(2, 0));
        Check.same("waiting", 2, x.waiting(0));
        Check.same("first", 0, x.waitingAt(0, 0));
        Check.same("no offer", 0, x.offerDays(2, 0));
        Check.same("no offer for the next", 0, x.offerDays(0, 0));
        Check.same("enrolled", 1, x.enrolled(0));
        Check.same("free", 0, x.freeSeats(0));
    }

    static void p25_notWithoutAnOffer() {
        CourseEnrolment x = withOffer();
        Check.badState(x, () -> x.accept(0, 0));
        Check.badState(x, () -> x.accept(3, 0));
        Check.badState(x, () -> x.accept(2, 1));
        x.accept(2, 0);
        Check.badState(x, () -> x.accept(2, 0));
    }

    static void p25_notWithAnObstacle() {
        CourseEnrolment x = withOffer();
        x.addCourse(1, 1, 1);
        x.addCourse(1, 9, 2);
        x.request(2, 3);
        Check.same("a clash", CourseEnrolment.CLASH, x.obstacle(2, 0));
        Check.same("the offer stays", 3, x.offerDays(2, 0));
        Check.badState(x, () -> x.accept(2, 0));
        x.change(2, 3, 4);
        Check.same("credits", CourseEnrolment.CREDITS, x.obstacle(2, 0));
        Check.badState(x, () -> x.accept(2, 0));
        x.drop(2, 4);
        x.addPrerequisite(0, 1);
        Check.badState(x, () -> x.accept(2, 0));
        x.pass(2, 1);
        Check.same("credits", 4, x.accept(2, 0));
    }

    static void p25_onTheDayOfTheOfferAndTheTwoAfterIt() {
        for (int days = 1; days <= 3; days++) {
            CourseEnrolment x = withOffer();
            x.advance(days);
            if (days < 3) {
                Check.same("credits", 4, x.accept(2, 0));
            } else {
                Check.badState(x, () -> x.accept(2, 0));
            }
        }
    }

    static void p25_wrongArguments() {
        CourseEnrolment x = withOffer();
        for (int s : NO_STUDENTS) {
            Check.noSuch(x, () -> x.accept(s, 0));
            Check.noSuch(x, () -> x.accept(s, 3));
        }
        for (int c : NO_COURSES) {
            Check.noSuch(x, () -> x.accept(2, c));
        }
    }

    static void p26_tellsWhetherThereWasAnOffer() {
        CourseEnrolment x = withOffer();
        Check.no("none", x.leave(0, 0));
        Check.same("waiting", 2, x.waiting(0));
        Check.same("first", 2, x.waitingAt(0, 0));
        Check.same("second", 1, x.waitingAt(0, 1));
        Check.yes("an offer", x.leave(2, 0));
        Check.same("waiting", 1, x.waiting(0));
        Check.same("ended", 0, x.offerDays(2, 0));
        Check.same("the next has it", 3, x.offerDays(1, 0));
        Check.yes("an offer", x.leave(1, 0));
        Check.same("free", 1, x.freeSeats(0));
    }

    static void p26_keepsTheWish() {
        CourseEnrolment x = withOffer();
        x.wish(0, 0);
        x.leave(0, 0);
        Check.same("wishes", 1, x.wishes(0));
    }

    static void p26_onlyFromTheList() {
        CourseEnrolment x = withOffer();
        Check.badState(x, () -> x.leave(3, 0));
        Check.badState(x, () -> x.leave(2, 1));
        x.accept(2, 0);
        Check.badState(x, () -> x.leave(2, 0));
        x.leave(0, 0);
        Check.badState(x, () -> x.leave(0, 0));
        for (int s : NO_STUDENTS) {
            Check.noSuch(x, () -> x.leave(s, 0));
            Check.noSuch(x, () -> x.leave(s, 3));
        }
        for (int c : NO_COURSES) {
            Check.noSuch(x, () -> x.leave(1, c));
        }
    }

    static void p27_offersExpireWhenTheThirdDayBegins() {
        CourseEnrolment x = withOffer();
        Check.same("the day after", 0, x.advance(1));
        Check.same("the second day", 0, x.advance(1));
        Check.same("still held", 1, x.offerDays(2, 0));
        Check.same("the third day", 1, x.advance(1));
        Check.same("off the list", 2, x.waiting(0));
        Check.same("first", 0, x.waitingAt(0, 0));
        Check.same("a new offer", 3, x.offerDays(0, 0));
        Check.same("not for the second", 0, x.offerDays(1, 0));
    }

    static void p27_dayAfterDay() {
        CourseEnrolment x = withOffer();
        Check.same("on the days 3 and 6", 2, x.advance(7));
        Check.same("waiting", 1, x.waiting(0));
        Check.same("offered on day 6", 2, x.offerDays(1, 0));
        Check.same("day", 7, x.day());
        Check.same("on day 9", 1, x.advance(2));
        Check.same("free", 1, x.freeSeats(0));
        Check.same("nothing left", 0, x.advance(7));
    }

    static void p27_allThatExpireEndBeforeNewOffers() {
        CourseEnrolment x = office();
        for (int s = 0; s < 4; s++) {
            x.request(s, 1);
        }
        x.request(0, 0);
        x.setSeats(1, 2);
        x.advance(1);
        x.setSeats(0, 1);
        x.setSeats(1, 3);
        Check.same("both of day 0", 2, x.advance(2));
        Check.same("waiting", 2, x.waiting(1));
        Check.same("of day 1", 1, x.offerDays(2, 1));
        Check.same("a new one", 3, x.offerDays(3, 1));
        Check.same("free", 1, x.freeSeats(1));
        Check.same("of day 1, another course", 1, x.offerDays(0, 0));
        Check.same("both of day 1", 2, x.advance(1));
        Check.same("nobody waits", 0, x.waiting(0));
    }

    static void p27_inAFullOffice() {
        CourseEnrolment x = new CourseEnrolment();
        for (int c = 0; c < 20; c++) {
            x.addCourse(0, 1, 0);
        }
        for (int s = 0; s < 16; s++) {
            x.addStudent(0, 40);
        }
        x.request(15, 19);
        x.request(0, 19);
        x.request(15, 0);
        x.setSeats(19, 1);
        x.setSeats(0, 1);
        Check.same("the last course and the first", 2, x.advance(3));
        Check.same("nobody waits", 0, x.waiting(0));
        Check.same("offered to the next", 3, x.offerDays(0, 19));
        Check.same("credits", 1, x.accept(0, 19));
    }

    static void p27_expiredStudentsMayAskAnew() {
        CourseEnrolment x = withOffer();
        x.advance(3);
        Check.same("at the end", 3, x.request(2, 0));
        Check.same("last", 2, x.waitingAt(0, 2));
        x.setSeats(0, 3);
        Check.same("a new offer", 3, x.offerDays(2, 0));
        Check.same("the third day after it", 3, x.advance(3));
    }

    static void p27_daysOutOfRange() {
        CourseEnrolment x = withOffer();
        for (int days : new int[] {0, 8, -1, LOW, HIGH}) {
            Check.badArgument(x, () -> x.advance(days));
        }
        x.advance(7);
        Check.same("day", 7, x.day());
    }

    static void p28_countsTheDays() {
        CourseEnrolment x = new CourseEnrolment();
        Check.same("first", 0, x.day());
        x.advance(1);
        Check.same("next", 1, x.day());
        x.advance(7);
        Check.same("a week later", 8, x.day());
        for (int i = 0; i < 400; i++) {
            x.advance(7);
        }
        Check.same("a long time later", 2808, x.day());
    }

    static void p29_countsThoseWithAnOfferToo() {
        CourseEnrolment x = withOffer();
        Check.same("waiting", 3, x.waiting(0));
        Check.same("other course", 0, x.waiting(1));
        x.setSeats(0, 3);
        Check.same("all with offers", 3, x.waiting(0));
        x.accept(0, 0);
        Check.same("waiting", 2, x.waiting(0));
        x.pass(1, 0);
        Check.same("waiting", 1, x.waiting(0));
        for (int c : NO_COURSES) {
            Check.noSuch(x, () -> x.waiting(c));
        }
    }

    static void p30_inTheOrderOfJoining() {
        CourseEnrolment x = withOffer();
        x.request(3, 0);
        int[] due = {2, 0, 1, 3};
        for (int place = 0; place < due.length; place++) {
            Check.same("student", due[place], x.waitingAt(0, place));
        }
        x.leave(0, 0);
        x.request(0, 0);
        Check.same("moved up", 1, x.waitingAt(0, 1));
        Check.same("moved up", 3, x.waitingAt(0, 2));
        Check.same("at the end", 0, x.waitingAt(0, 3));
    }

    static void p30_wrongArguments() {
        CourseEnrolment x = withOffer();
        for (int place : new int[] {-1, 3, 16, LOW, HIGH}) {
            Check.noSuch(x, () -> x.waitingAt(0, place));
        }
        Check.noSuch(x, () -> x.waitingAt(1, 0));
        for (int c : NO_COURSES) {
            Check.noSuch(x, () -> x.waitingAt(c, 0));
        }
    }

    static void p31_countsTheDaysDown() {
        CourseEnrolment x = withOffer();
        Check.same("no offer", 0, x.offerDays(0, 0));
        Check.same("not on the list", 0, x.offerDays(3, 0));
        Check.same("another course", 0, x.offerDays(2, 1));
        Check.same("the day of the offer", 3, x.offerDays(2, 0));
        x.advance(1);
        Check.same("the next day", 2, x.offerDays(2, 0));
        x.advance(1);
        Check.same("the day after that", 1, x.offerDays(2, 0));
        x.advance(1);
        Check.same("expired", 0, x.offerDays(2, 0));
    }

    static void p31_eachOfferHasDaysOfItsOwn() {
        CourseEnrolment x = withOffer();
        x.advance(1);
        x.setSeats(0, 2);
        Check.same("of the day before", 2, x.offerDays(2, 0));
        Check.same("of today", 3, x.offerDays(0, 0));
        x.advance(1);
        Check.same("the older one", 1, x.offerDays(2, 0));
        Check.same("the newer one", 2, x.offerDays(0, 0));
    }

    static void p31_anOfferStaysWhenAnObstacleArises() {
        CourseEnrolment x = withOffer();
        x.addPrerequisite(0, 1);
        Check.same("still an offer", 3, x.offerDays(2, 0));
        x.advance(2);
        Check.same("to its last day", 1, x.offerDays(2, 0));
        Check.same("expires all the same", 1, x.advance(1));
        Check.same("the others have an obstacle", 0, x.offerDays(0, 0));
        Check.same("free", 1, x.freeSeats(0));
    }

    static void p31_wrongArguments() {
        CourseEnrolment x = withOffer();
        for (int s : NO_STUDENTS) {
            Check.noSuch(x, () -> x.offerDays(s, 0));
            Check.noSuch(x, () -> x.offerDays(s, 3));
        }
        for (int c : NO_COURSES) {
            Check.noSuch(x, () -> x.offerDays(2, c));
        }
    }
}
