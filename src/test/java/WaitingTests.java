/** Promises 25 to 31: waiting lists and days. */
final class WaitingTests {
    private static final int LOW = Integer.MIN_VALUE;
    private static final int HIGH = Integer.MAX_VALUE;

    private WaitingTests() {
    }

    /** Three courses of no seats, 4 credits and an hour each, four students of limit 12. */
    private static Office office() {
        Office x = new Office();
        for (int c = 0; c < 3; c++) {
            x.addCourse(0, 4, 1 << c);
        }
        for (int s = 0; s < 4; s++) {
            x.addStudent(0, 12);
        }
        return x;
    }

    /** The office with the students 2, 0 and 1 on the list of course 0, 2 with an offer. */
    private static Office withOffer() {
        Office x = office();
        x.request(2, 0);
        x.request(0, 0);
        x.request(1, 0);
        x.setSeats(0, 1);
        return x;
    }

    /** A course without seats, with all 16 students on its waiting list. */
    private static Office withAllWaiting() {
        Office x = Office.with(2, 0, 16);
        for (int s = 0; s < 16; s++) {
            x.request(s, 0);
        }
        return x;
    }

    // Promise 25: "Accepts an offer: the student is enrolled"
    static void p25_enrolsTheOneWithTheOffer() {
        Office x = withOffer();
        x.wish(2, 1);
        x.wish(2, 0);
        x.accept(2, 0);
        Check.yes("enrolled", x.isEnrolled(2, 0));
        Check.same("the wish is gone", 1, x.wishes(2));
        Check.same("the other wish", 1, x.wishAt(2, 0));
        Check.same("waiting", 2, x.waiting(0));
        Check.same("first", 0, x.waitingAt(0, 0));
        Check.same("no offer", 0, x.offerDays(2, 0));
        Check.same("no offer for the next", 0, x.offerDays(0, 0));
        Check.same("enrolled", 1, x.enrolled(0));
        Check.same("free", 0, x.freeSeats(0));
    }

    // Promise 25: "Accepts an offer: the student is enrolled"
    static void p25_all16Accept() {
        Office x = withAllWaiting();
        x.setSeats(0, 16);
        for (int s = 15; s >= 0; s--) {
            Check.same("credits", 1, x.accept(s, 0));
            Check.same("waiting", s, x.waiting(0));
        }
        Check.same("enrolled", 16, x.enrolled(0));
    }

    // Promise 25: "Accepts an offer: the student is enrolled"
    static void p25_otherOffersStay() {
        Office x = withOffer();
        x.request(2, 1);
        x.setSeats(1, 1);
        x.setSeats(0, 2);
        x.accept(2, 0);
        Check.same("of another course", 3, x.offerDays(2, 1));
        Check.same("of another student", 3, x.offerDays(0, 0));
    }

    // Promise 25: "Returns the credits of the student then"
    static void p25_returnsTheCredits() {
        Office x = withOffer();
        Check.same("of one course", 4, x.accept(2, 0));
        x.request(2, 1);
        x.setSeats(1, 1);
        Check.same("of two", 8, x.accept(2, 1));
        x.request(2, 2);
        x.setSeats(2, 1);
        Check.same("up to the limit", 12, x.accept(2, 2));
    }

    // Promise 25: "Throws IndexOutOfBoundsException if there is no such student or course"
    static void p25_noSuchStudentOrCourse() {
        Office x = office();
        x.request(0, 0);
        x.setSeats(0, 1);
        Check.refusesUnknown(x, x::accept);
    }

    // Promise 25: "Throws IllegalStateException if the student has no offer for the course, .."
    static void p25_notWithoutAnOffer() {
        Office x = withOffer();
        Check.badState(x, () -> x.accept(0, 0));
        Check.badState(x, () -> x.accept(3, 0));
        Check.badState(x, () -> x.accept(2, 1));
        x.setSeats(1, 1);
        Check.badState(x, () -> x.accept(2, 1));
        x.accept(2, 0);
        Check.badState(x, () -> x.accept(2, 0));
    }

    // Promise 25: "Throws IllegalStateException if the student has no offer for the course, .."
    static void p25_notAfterTheOfferHasEnded() {
        Office left = withOffer();
        left.leave(2, 0);
        Check.badState(left, () -> left.accept(2, 0));
        Office passed = withOffer();
        passed.pass(2, 0);
        Check.badState(passed, () -> passed.accept(2, 0));
        Office expired = withOffer();
        expired.advance(3);
        Check.badState(expired, () -> expired.accept(2, 0));
        Check.same("the next one has it", 4, expired.accept(0, 0));
    }

    // Promise 25: "Throws IllegalStateException if .. there is an obstacle"
    static void p25_notWithAnObstacle() {
        Office x = withOffer();
        x.addCourse(1, 1, 1);
        x.addCourse(1, 9, 2);
        x.request(2, 3);
        Check.same("a clash", CourseEnrolment.CLASH, x.obstacle(2, 0));
        Check.badState(x, () -> x.accept(2, 0));
        x.change(2, 3, 4);
        Check.same("credits", CourseEnrolment.CREDITS, x.obstacle(2, 0));
        Check.badState(x, () -> x.accept(2, 0));
        x.drop(2, 4);
        x.addPrerequisite(0, 1);
        Check.same("prerequisite", CourseEnrolment.PREREQUISITE, x.obstacle(2, 0));
        Check.badState(x, () -> x.accept(2, 0));
        x.pass(2, 1);
        Check.same("without one", 4, x.accept(2, 0));
    }

    // Promise 26: "Takes a student off the waiting list of a course"
    static void p26_fromEachPlaceOfTheList() {
        for (int place = 0; place < 16; place++) {
            Office x = withAllWaiting();
            x.request(place, 1);
            x.leave(place, 0);
            Check.same("waiting", 15, x.waiting(0));
            for (int left = 0; left < 15; left++) {
                Check.same("left", left < place ? left : left + 1, x.waitingAt(0, left));
            }
            Check.same("the other list", 1, x.waiting(1));
        }
    }

    // Promise 26: "Takes a student off the waiting list of a course"
    static void p26_keepsTheWish() {
        Office x = withOffer();
        x.wish(0, 0);
        x.leave(0, 0);
        Check.same("wishes", 1, x.wishes(0));
    }

    // Promise 26: "an offer for it ends"
    static void p26_theOfferEnds() {
        Office x = withOffer();
        x.request(2, 1);
        x.setSeats(1, 1);
        x.leave(2, 0);
        Check.same("ended", 0, x.offerDays(2, 0));
        Check.same("the next has it", 3, x.offerDays(0, 0));
        Check.same("the one for another course stays", 3, x.offerDays(2, 1));
        x.leave(0, 0);
        x.leave(1, 0);
        Check.same("no longer held", 1, x.freeSeats(0));
    }

    // Promise 26: "Returns whether the student had an offer for it"
    static void p26_tellsWhetherThereWasAnOffer() {
        Office x = withOffer();
        x.request(0, 1);
        x.setSeats(1, 1);
        Check.no("one for another course", x.leave(0, 0));
        Check.yes("an offer", x.leave(2, 0));
        x.advance(2);
        Check.yes("on its last day", x.leave(1, 0));
        x.request(3, 2);
        Check.no("none", x.leave(3, 2));
    }

    // Promise 26: "Throws IndexOutOfBoundsException if there is no such student or course"
    static void p26_noSuchStudentOrCourse() {
        Office x = office();
        x.request(0, 0);
        Check.refusesUnknown(x, x::leave);
    }

    // Promise 26: "Throws IllegalStateException if the student is not on the waiting list"
    static void p26_onlyFromTheList() {
        Office x = withOffer();
        Check.badState(x, () -> x.leave(3, 0));
        Check.badState(x, () -> x.leave(2, 1));
        x.accept(2, 0);
        Check.badState(x, () -> x.leave(2, 0));
        x.leave(0, 0);
        Check.badState(x, () -> x.leave(0, 0));
        x.setSeats(0, 2);
        x.advance(3);
        Check.badState(x, () -> x.leave(1, 0));
    }

    // Promise 27: "Lets days pass, one after the other"
    static void p27_oneCallOrManyAreTheSame() {
        Office x = withOffer();
        Check.same("on the days 3 and 6", 2, x.advance(7));
        Office y = withOffer();
        int expired = 0;
        for (int i = 0; i < 7; i++) {
            expired += y.advance(1);
        }
        Check.same("expired", 2, expired);
        Check.same("day", x.day(), y.day());
        Check.same("offered on day 6", 2, x.offerDays(1, 0));
        Check.same("offered on day 6", 2, y.offerDays(1, 0));
        Check.same("waiting", 1, x.waiting(0));
        Check.same("waiting", 1, y.waiting(0));
    }

    // Promise 27: "When a day begins, the offers that expire on it end, all of them, .."
    static void p27_allThatExpireOnADayEnd() {
        Office x = withAllWaiting();
        x.setSeats(0, 16);
        Check.same("not before", 0, x.advance(2));
        Check.same("all 16", 16, x.advance(1));
        Check.same("nobody waits", 0, x.waiting(0));
        Check.same("free", 16, x.freeSeats(0));
    }

    // Promise 27: "When a day begins, the offers that expire on it end, all of them, .."
    static void p27_onlyThoseThatExpireOnItEnd() {
        Office x = office();
        for (int s = 0; s < 3; s++) {
            x.request(s, 1);
        }
        x.setSeats(1, 1);
        x.advance(1);
        x.setSeats(1, 2);
        x.advance(1);
        x.setSeats(1, 3);
        for (int s = 0; s < 3; s++) {
            Check.same("one a day", 1, x.advance(1));
            Check.same("waiting", 2 - s, x.waiting(1));
            Check.same("ended", 0, x.offerDays(s, 1));
        }
    }

    // Promise 27: "When a day begins, .. and these students leave the waiting lists of the
    // courses for which their offers were"
    static void p27_offTheListsOfThoseCoursesOnly() {
        Office x = office();
        x.request(0, 0);
        x.request(0, 1);
        x.request(0, 2);
        x.request(1, 0);
        x.setSeats(0, 1);
        x.setSeats(1, 1);
        Check.same("two", 2, x.advance(3));
        Check.same("the other one is left", 1, x.waitingAt(0, 0));
        Check.same("waiting", 1, x.waiting(0));
        Check.same("nobody", 0, x.waiting(1));
        Check.same("still waiting without an offer", 1, x.waiting(2));
    }

    // Promise 27: "When a day begins, .. and these students leave the waiting lists of the
    // courses for which their offers were"
    static void p27_inAFullOffice() {
        Office x = Office.with(20, 0, 16);
        x.request(15, 19);
        x.request(0, 19);
        x.request(15, 0);
        x.setSeats(19, 1);
        x.setSeats(0, 1);
        Check.same("the last course and the first", 2, x.advance(3));
        Check.same("nobody waits", 0, x.waiting(0));
        Check.same("the next waits", 0, x.waitingAt(19, 0));
        Check.same("waiting", 1, x.waiting(19));
    }

    // Promise 27: "then offers are made"
    static void p27_offersToThoseNextOnTheList() {
        Office x = office();
        for (int s = 0; s < 4; s++) {
            x.request(s, 1);
        }
        x.setSeats(1, 2);
        x.advance(3);
        Check.same("the third", 3, x.offerDays(2, 1));
        Check.same("the fourth", 3, x.offerDays(3, 1));
        Check.same("none is free", 0, x.freeSeats(1));
    }

    // Promise 27: "then offers are made"
    static void p27_whoHasLetOneExpireGetsNoneOnThatDay() {
        Office x = office();
        x.request(0, 0);
        x.setSeats(0, 1);
        Check.same("expired", 1, x.advance(3));
        Check.same("no new one", 0, x.offerDays(0, 0));
        Check.same("free", 1, x.freeSeats(0));
        Check.same("who asks anew is enrolled", 0, x.request(0, 0));
    }

    // Promise 27: "then offers are made"
    static void p27_expiredStudentsMayAskAnew() {
        Office x = withOffer();
        x.advance(3);
        Check.same("at the end", 3, x.request(2, 0));
        Check.same("last", 2, x.waitingAt(0, 2));
        x.setSeats(0, 3);
        Check.same("a new offer", 3, x.offerDays(2, 0));
        Check.same("the third day after it", 3, x.advance(3));
    }

    // Promise 27: "days: 1 to 7"
    static void p27_from1To7Days() {
        for (int days = 1; days <= 7; days++) {
            Office x = withOffer();
            x.advance(2);
            Check.same("expired", days / 3 + (days % 3 == 0 ? 0 : 1), x.advance(days));
            Check.same("day", 2 + days, x.day());
        }
    }

    // Promise 27: "Returns how many offers expired"
    static void p27_countsThoseThatExpiredOnly() {
        Office x = withOffer();
        Check.same("none yet", 0, x.advance(1));
        x.setSeats(0, 2);
        Check.same("none yet", 0, x.advance(1));
        Check.same("the first", 1, x.advance(1));
        Check.same("the second", 1, x.advance(1));
        x.accept(1, 0);
        Check.same("an accepted one does not", 0, x.advance(7));
        Check.same("nothing left", 0, x.advance(7));
    }

    // Promise 27: "Returns how many offers expired"
    static void p27_thoseThatEndedBeforeDoNotExpire() {
        Office x = withAllWaiting();
        x.setSeats(0, 16);
        for (int s = 0; s < 5; s++) {
            x.accept(s, 0);
            x.leave(s + 5, 0);
        }
        x.pass(10, 0);
        Check.same("the other five", 5, x.advance(7));
    }

    // Promise 27: "Returns how many offers expired"
    static void p27_severalRoundsInOneCall() {
        Office x = withAllWaiting();
        x.setSeats(0, 4);
        Check.same("4 on day 3, 4 on day 6", 8, x.advance(7));
        Check.same("4 on day 9, 4 on day 12", 8, x.advance(7));
        Check.same("none", 0, x.advance(7));
    }

    // Promise 27: "Throws IllegalArgumentException if days is out of range"
    static void p27_daysOutOfRange() {
        Office x = withOffer();
        for (int days : new int[] {0, 8, -1, LOW, HIGH}) {
            Check.badArgument(x, () -> x.advance(days));
        }
        Check.same("day", 0, x.day());
    }

    // Promise 28: "Returns the number of the current day"
    static void p28_countsTheDays() {
        Office x = new Office();
        Check.same("first", 0, x.day());
        x.advance(1);
        Check.same("next", 1, x.day());
        x.advance(7);
        Check.same("a week later", 8, x.day());
        x.addCourse(1, 1, 0);
        Check.same("other calls take no time", 8, x.day());
    }

    // Promise 28: "Returns the number of the current day"
    static void p28_toTheLastCallThatIsPromised() {
        Office x = new Office();
        for (int i = 0; i < Office.MOST_CALLS - 1; i++) {
            x.advance(7);
        }
        Check.same("after 511 weeks", 3577, x.day());
    }

    // Promise 28: "Returns the number of the current day"
    static void p28_offersLastAsLongOnLateDays() {
        Office x = withOffer();
        x.leave(0, 0);
        x.leave(1, 0);
        x.leave(2, 0);
        for (int i = 0; i < 400; i++) {
            x.advance(7);
        }
        x.setSeats(0, 0);
        x.request(0, 0);
        x.setSeats(0, 1);
        Check.same("day 2800", 2800, x.day());
        Check.same("an offer", 3, x.offerDays(0, 0));
        Check.same("not yet", 0, x.advance(2));
        Check.same("expired", 1, x.advance(1));
    }

    // Promise 29: "Returns how many students are on the waiting list of a course, those with an
    // offer included"
    static void p29_countsThoseWithAnOfferToo() {
        Office x = withOffer();
        Check.same("one with an offer", 3, x.waiting(0));
        x.setSeats(0, 3);
        Check.same("all with offers", 3, x.waiting(0));
        x.accept(0, 0);
        Check.same("one accepted", 2, x.waiting(0));
        x.pass(1, 0);
        Check.same("one passed", 1, x.waiting(0));
        Check.same("other course", 0, x.waiting(1));
    }

    // Promise 29: "Returns how many"
    static void p29_from0To16() {
        Office x = Office.with(1, 0, 16);
        for (int s = 0; s < 16; s++) {
            Check.same("waiting", s, x.waiting(0));
            x.request(s, 0);
        }
        Check.same("all", 16, x.waiting(0));
        for (int s = 0; s < 16; s++) {
            x.leave(s, 0);
            Check.same("waiting", 15 - s, x.waiting(0));
        }
    }

    // Promise 29: "Throws IndexOutOfBoundsException if there is no such course"
    static void p29_noSuchCourse() {
        Office x = withOffer();
        Check.refusesCourses(x, x::waiting);
    }

    // Promise 30: "Returns a student on the waiting list of a course"
    static void p30_inTheOrderOfJoining() {
        Office x = withOffer();
        x.request(3, 0);
        int[] due = {2, 0, 1, 3};
        for (int place = 0; place < due.length; place++) {
            Check.same("student", due[place], x.waitingAt(0, place));
        }
        x.leave(0, 0);
        x.request(0, 0);
        Check.same("moved up", 1, x.waitingAt(0, 1));
        Check.same("moved up", 3, x.waitingAt(0, 2));
        Check.same("at the end", 0, x.waitingAt(0, 3));
    }

    // Promise 30: "place: 0 for the first one, less than waiting(course)"
    static void p30_eachPlaceUpToTheLast() {
        Office x = Office.with(1, 0, 16);
        for (int s = 15; s >= 0; s--) {
            x.request(s, 0);
            Check.same("the first", 15, x.waitingAt(0, 0));
            Check.same("the last", s, x.waitingAt(0, 15 - s));
        }
    }

    // Promise 30: "Returns the number of the student"
    static void p30_ofEachList() {
        Office x = office();
        x.request(3, 0);
        x.request(0, 2);
        Check.same("of the first", 3, x.waitingAt(0, 0));
        Check.same("of the last", 0, x.waitingAt(2, 0));
    }

    // Promise 30: "Throws IndexOutOfBoundsException if there is no such course, .."
    static void p30_noSuchCourse() {
        Office x = withOffer();
        Check.refusesCourses(x, c -> x.waitingAt(c, 0));
        Check.refusesCourses(x, c -> x.waitingAt(c, -1));
    }

    // Promise 30: "Throws IndexOutOfBoundsException if .. nobody at this place"
    static void p30_nobodyAtThisPlace() {
        Office x = withOffer();
        Check.refusesNumbers(x, 3, place -> x.waitingAt(0, place));
        Check.refusesNumbers(x, 0, place -> x.waitingAt(1, place));
        x.leave(1, 0);
        Check.noSuch(x, () -> x.waitingAt(0, 2));
        Office all = withAllWaiting();
        Check.refusesNumbers(all, 16, place -> all.waitingAt(0, place));
    }

    // Promise 31: "Returns on how many days, the current one included, a student can still accept
    // an offer"
    static void p31_eachOfferHasDaysOfItsOwn() {
        Office x = withOffer();
        x.advance(1);
        x.setSeats(0, 2);
        Check.same("of the day before", 2, x.offerDays(2, 0));
        Check.same("of today", 3, x.offerDays(0, 0));
        x.advance(1);
        Check.same("the older one", 1, x.offerDays(2, 0));
        Check.same("the newer one", 2, x.offerDays(0, 0));
        x.advance(1);
        Check.same("the older one", 0, x.offerDays(2, 0));
        Check.same("the newer one", 1, x.offerDays(0, 0));
    }

    // Promise 31: "Returns on how many days, .. a student can still accept an offer"
    static void p31_anObstacleDoesNotShortenThem() {
        Office x = withOffer();
        x.addPrerequisite(0, 1);
        Check.same("still an offer", 3, x.offerDays(2, 0));
        x.advance(2);
        Check.same("to its last day", 1, x.offerDays(2, 0));
        Check.same("expires all the same", 1, x.advance(1));
    }

    // Promise 31: "Returns 3 on the day on which the offer is made, 2 on the next day, 1 on the
    // day after that"
    static void p31_countsDownFrom3() {
        Office x = withOffer();
        Check.same("the day of the offer", 3, x.offerDays(2, 0));
        x.advance(1);
        Check.same("the next day", 2, x.offerDays(2, 0));
        x.advance(1);
        Check.same("the day after that", 1, x.offerDays(2, 0));
        x.advance(1);
        Check.same("the third day", 0, x.offerDays(2, 0));
        Check.same("the next one's", 3, x.offerDays(0, 0));
    }

    // Promise 31: "0 if the student has no offer for the course"
    static void p31_0WithoutAnOffer() {
        Office x = withOffer();
        Check.same("waiting without one", 0, x.offerDays(0, 0));
        Check.same("not on the list", 0, x.offerDays(3, 0));
        Check.same("another course", 0, x.offerDays(2, 1));
        x.accept(2, 0);
        Check.same("accepted", 0, x.offerDays(2, 0));
        x.drop(2, 0);
        Check.same("the next one's", 3, x.offerDays(0, 0));
        x.leave(0, 0);
        Check.same("left", 0, x.offerDays(0, 0));
        x.pass(1, 0);
        Check.same("passed", 0, x.offerDays(1, 0));
    }

    // Promise 31: "Throws IndexOutOfBoundsException if there is no such student or course"
    static void p31_noSuchStudentOrCourse() {
        Office x = withOffer();
        Check.refusesUnknown(x, x::offerDays);
    }
}
