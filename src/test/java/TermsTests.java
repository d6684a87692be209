/** The section "Terms", sentence by sentence. */
final class TermsTests {
    private static final int NONE = CourseEnrolment.NONE;
    private static final int NO_OBSTACLE = CourseEnrolment.NO_OBSTACLE;
    private static final int PASSED = CourseEnrolment.PASSED;
    private static final int ENROLLED = CourseEnrolment.ENROLLED;
    private static final int PREREQUISITE = CourseEnrolment.PREREQUISITE;
    private static final int CREDITS = CourseEnrolment.CREDITS;
    private static final int CLASH = CourseEnrolment.CLASH;
    private static final int ALL_HOURS = 1073741823;

    private TermsTests() {
    }

    private static Office chain(int courses) {
        Office x = Office.with(courses, 1, 1);
        for (int c = 1; c < courses; c++) {
            x.addPrerequisite(c, c - 1);
        }
        return x;
    }

    /** A course without seats; as many students, from 0 on, are on its waiting list. */
    private static Office queue(int students) {
        Office x = Office.with(1, 0, students);
        for (int s = 0; s < students; s++) {
            x.request(s, 0);
        }
        return x;
    }

    // ---- courses

    // Terms: "At most 20 courses are numbered from 0 in the order in which they are added"
    static void terms_20CoursesFrom0On() {
        Office x = new Office();
        for (int c = 0; c < 20; c++) {
            Check.same("number", c, x.addCourse(c % 17, 1, 0));
        }
        Check.badState(x, () -> x.addCourse(1, 1, 0));
        Check.same("courses", 20, x.courses());
        for (int c = 0; c < 20; c++) {
            Check.same("the seats of the one added then", c % 17, x.freeSeats(c));
        }
    }

    // Terms: "A course has seats, credits and hours: a set of the 30 hours of a week, as an int
    // in which bit h stands for the hour h"
    static void terms_bitHStandsForTheHourH() {
        for (int hour = 0; hour < 30; hour++) {
            Office x = new Office();
            x.addCourse(1, 1, 1 << hour);
            x.addCourse(1, 1, ALL_HOURS - (1 << hour));
            x.addCourse(1, 1, 1 << hour);
            x.addCourse(1, 1, ALL_HOURS);
            x.addStudent(0, 40);
            x.request(0, 0);
            Check.same("all other hours", NO_OBSTACLE, x.obstacle(0, 1));
            Check.same("the hour " + hour, CLASH, x.obstacle(0, 2));
            Check.same("all hours", CLASH, x.obstacle(0, 3));
        }
    }

    // Terms: "Two courses clash if they have an hour in common"
    static void terms_oneHourInCommonIsAClash() {
        Office x = new Office();
        x.addCourse(1, 1, 0b0111);
        x.addCourse(1, 1, 0b1100);
        x.addCourse(1, 1, 0b1000);
        x.addCourse(1, 1, 0b0111);
        x.addCourse(1, 1, 0);
        x.addCourse(1, 1, 0);
        x.addStudent(0, 40);
        x.request(0, 0);
        Check.same("one in common", CLASH, x.obstacle(0, 1));
        Check.same("none in common", NO_OBSTACLE, x.obstacle(0, 2));
        Check.same("all in common", CLASH, x.obstacle(0, 3));
        Check.same("one without hours", NO_OBSTACLE, x.obstacle(0, 4));
        x.request(0, 4);
        Check.same("two without hours", NO_OBSTACLE, x.obstacle(0, 5));
    }

    // Terms: "A course can have direct prerequisites, which are other courses"
    static void terms_all19OthersCanBeDirectPrerequisites() {
        Office x = Office.with(20, 1, 0);
        Check.badState(x, () -> x.addPrerequisite(7, 7));
        int due = 0;
        for (int c = 0; c < 20; c++) {
            if (c != 7) {
                due++;
                Check.same("required", due, x.addPrerequisite(7, c));
            }
        }
        Check.same("level", 1, x.level(7));
    }

    // Terms: "A course requires its direct prerequisites, and all courses that these require"
    static void terms_requiresAllDownTheLongestChain() {
        Office x = chain(20);
        for (int c = 0; c < 19; c++) {
            Check.yes("the last one requires", x.requires(19, c));
            Check.no("is required by", x.requires(c, 19));
        }
        Check.same("missing", 19, x.missing(0, 19));
    }

    // Terms: "A course requires its direct prerequisites, and all courses that these require"
    static void terms_requiresWhatThosePrerequisitesGetLater() {
        Office x = Office.with(4, 1, 0);
        x.addPrerequisite(3, 2);
        x.addPrerequisite(1, 0);
        Check.no("not yet", x.requires(3, 0));
        x.addPrerequisite(2, 1);
        Check.yes("directly then", x.requires(2, 1));
        Check.yes("through one", x.requires(3, 1));
        Check.yes("through two", x.requires(3, 0));
    }

    // Terms: "No course ever requires itself"
    static void terms_noCircleOfAnyLength() {
        for (int length = 1; length <= 20; length++) {
            Office x = chain(length);
            int last = length - 1;
            Check.badState(x, () -> x.addPrerequisite(0, last));
            for (int c = 0; c < length; c++) {
                Check.no("itself", x.requires(c, c));
            }
        }
    }

    // ---- students

    // Terms: "At most 16 students are numbered from 0 in the order in which they are added"
    static void terms_16StudentsFrom0On() {
        Office x = new Office();
        x.addCourse(1, 1, 0);
        x.addCourse(1, 12, 0);
        for (int s = 0; s < 16; s++) {
            Check.same("number", s, x.addStudent(0, s % 2 == 0 ? 1 : 40));
        }
        Check.badState(x, () -> x.addStudent(0, 1));
        Check.same("students", 16, x.students());
        for (int s = 0; s < 16; s++) {
            Check.same("the limit of the one added then", s % 2 == 0 ? CREDITS : NO_OBSTACLE,
                    x.obstacle(s, 1));
        }
    }

    // Terms: "A student has .. at most 6 wishes: .."
    static void terms_6WishesAndNotOneMore() {
        Office x = Office.with(7, 1, 1);
        for (int c = 0; c < 6; c++) {
            x.wish(0, c);
        }
        Check.same("wishes", 6, x.wishes(0));
        Check.badState(x, () -> x.wish(0, 6));
    }

    // Terms: "A student has .. courses in the order of preference, .."
    static void terms_wishesStandInTheirOrder() {
        Office x = Office.with(6, 1, 1);
        int[] wished = {3, 5, 0, 4, 2, 1};
        for (int c : wished) {
            x.wish(0, c);
        }
        for (int place = 0; place < 6; place++) {
            Check.same("wish", wished[place], x.wishAt(0, place));
        }
    }

    // Terms: "A student has .. none of them twice"
    static void terms_noWishTwice() {
        Office x = Office.with(5, 1, 1);
        for (int c = 0; c < 5; c++) {
            x.wish(0, c);
        }
        for (int c = 0; c < 5; c++) {
            int wished = c;
            Check.badState(x, () -> x.wish(0, wished));
        }
    }

    // Terms: "A student has a priority band, a credit limit, passed courses, courses in which the
    // student is enrolled, .."
    static void terms_aNewStudentHasNoneOfThese() {
        Office x = Office.with(2, 1, 1);
        Check.no("passed", x.hasPassed(0, 0));
        Check.no("enrolled", x.isEnrolled(0, 0));
        Check.same("credits", 0, x.credits(0));
        Check.same("wishes", 0, x.wishes(0));
        x.pass(0, 0);
        x.request(0, 1);
        Check.yes("passed", x.hasPassed(0, 0));
        Check.yes("enrolled", x.isEnrolled(0, 1));
    }

    // Terms: "The credits of a student are the credits of all courses in which the student is
    // enrolled, added up"
    static void terms_creditsOfNoCourseUpToTheHighestLimit() {
        Office x = new Office();
        for (int credits : new int[] {12, 12, 11, 4, 1}) {
            x.addCourse(1, credits, 0);
        }
        x.addStudent(0, 40);
        int[] due = {12, 24, 35, 39, 40};
        Check.same("no course", 0, x.credits(0));
        for (int c = 0; c < 5; c++) {
            x.request(0, c);
            Check.same("credits", due[c], x.credits(0));
        }
        Check.same("of all but one", 28, x.drop(0, 1));
    }

    // Terms: "The credits of a student are the credits of all courses in which the student is
    // enrolled, added up"
    static void terms_creditsOfAll20Courses() {
        Office x = Office.with(20, 1, 1);
        for (int c = 0; c < 20; c++) {
            x.request(0, c);
        }
        Check.same("credits", 20, x.credits(0));
    }

    // ---- obstacles

    // Terms: "Seats aside, a student can take a course if there is no obstacle"
    static void terms_noSeatIsNoObstacle() {
        Office x = Office.with(3, 0, 2);
        x.setSeats(1, 1);
        x.request(1, 1);
        Check.same("no seats at all", NO_OBSTACLE, x.obstacle(0, 0));
        Check.same("none free", NO_OBSTACLE, x.obstacle(0, 1));
        x.request(0, 2);
        Check.same("while waiting", NO_OBSTACLE, x.obstacle(0, 2));
        x.setSeats(2, 1);
        Check.same("with an offer", NO_OBSTACLE, x.obstacle(0, 2));
        Check.same("held for another one", NO_OBSTACLE, x.obstacle(1, 2));
    }

    /** The courses 0 and 1 cannot be taken together: too many credits, and a common hour. */
    private static Office allObstacles() {
        Office x = new Office();
        x.addCourse(2, 6, 1);
        x.addCourse(2, 6, 1);
        x.addCourse(2, 1, 0);
        x.addStudent(0, 11);
        x.addPrerequisite(1, 2);
        return x;
    }

    // Terms: "Of the following obstacles the first one that applies counts: PASSED, the student
    // has passed the course"
    static void terms_passedComesFirst() {
        Office x = allObstacles();
        x.request(0, 0);
        x.pass(0, 1);
        Check.same("before three others", PASSED, x.obstacle(0, 1));
    }

    // Terms: "ENROLLED, the student is enrolled in it"
    static void terms_enrolledComesSecond() {
        Office x = new Office();
        x.addCourse(1, 6, 1);
        x.addCourse(1, 1, 0);
        x.addStudent(0, 11);
        x.request(0, 0);
        x.addPrerequisite(0, 1);
        Check.same("before three others", ENROLLED, x.obstacle(0, 0));
    }

    // Terms: "PREREQUISITE, the student has not passed all courses that it requires"
    static void terms_prerequisiteComesThird() {
        Office x = allObstacles();
        x.request(0, 0);
        Check.same("before two others", PREREQUISITE, x.obstacle(0, 1));
    }

    // Terms: "PREREQUISITE, the student has not passed all courses that it requires"
    static void terms_oneOf19CoursesIsMissing() {
        Office x = chain(20);
        for (int c = 18; c >= 0; c--) {
            Check.same("missing " + c, PREREQUISITE, x.obstacle(0, 19));
            x.pass(0, c);
        }
        Check.same("all passed", NO_OBSTACLE, x.obstacle(0, 19));
    }

    // Terms: "CREDITS, the credits of the student and those of the course, added up, are greater
    // than the limit"
    static void terms_creditsComeFourth() {
        Office x = allObstacles();
        x.request(0, 0);
        x.pass(0, 2);
        Check.same("before a clash", CREDITS, x.obstacle(0, 1));
    }

    // Terms: "CREDITS, the credits of the student and those of the course, added up, are greater
    // than the limit"
    static void terms_asManyAsTheLimitAreNotGreater() {
        for (int limit = 1; limit <= 13; limit++) {
            Office x = new Office();
            x.addCourse(1, 1, 0);
            x.addCourse(1, 12, 0);
            x.addStudent(0, limit);
            Check.same("12 of " + limit, limit < 12 ? CREDITS : NO_OBSTACLE, x.obstacle(0, 1));
            x.request(0, 0);
            Check.same("13 of " + limit, limit < 13 ? CREDITS : NO_OBSTACLE, x.obstacle(0, 1));
        }
    }

    // Terms: "CLASH, the course clashes with one in which the student is enrolled"
    static void terms_aClashComesLast() {
        Office x = new Office();
        x.addCourse(1, 6, 1);
        x.addCourse(1, 6, 3);
        x.addCourse(1, 6, 2);
        x.addStudent(0, 12);
        Check.same("enrolled nowhere", NO_OBSTACLE, x.obstacle(0, 1));
        x.request(0, 0);
        Check.same("with one", CLASH, x.obstacle(0, 1));
        Check.same("with none", NO_OBSTACLE, x.obstacle(0, 2));
        x.drop(0, 0);
        Check.same("enrolled no more", NO_OBSTACLE, x.obstacle(0, 1));
    }

    // ---- waiting lists

    // Terms: "Each course has a waiting list of students, in the order in which they joined it"
    static void terms_listsFromNobodyToAll16() {
        Office x = Office.with(2, 0, 16);
        Check.same("nobody", 0, x.waiting(0));
        for (int i = 0; i < 16; i++) {
            x.request(i * 5 % 16, 0);
        }
        Check.same("all", 16, x.waiting(0));
        for (int i = 0; i < 16; i++) {
            Check.same("place " + i, i * 5 % 16, x.waitingAt(0, i));
        }
        Check.same("the other list", 0, x.waiting(1));
    }

    // Terms: "A student on a waiting list can have an offer: a seat of the course that is held
    // for the student"
    static void terms_nobodyElseGetsTheSeatThatIsHeld() {
        Office x = queue(1);
        x.addCourse(1, 1, 0);
        x.addStudent(0, 40);
        x.request(1, 1);
        x.setSeats(0, 1);
        Check.same("an offer", 3, x.offerDays(0, 0));
        Check.same("still on the list", 0, x.waitingAt(0, 0));
        Check.badState(x, () -> x.change(1, 1, 0));
        x.wish(1, 0);
        Check.same("not by a lottery", 0, x.runLottery(0));
        Check.same("not by asking", 2, x.request(1, 0));
        Check.same("by accepting", 1, x.accept(0, 0));
    }

    // Terms: "The free seats of a course are its seats, less the students who are enrolled in it,
    // less the offers for it"
    static void terms_freeSeatsFromAllToNone() {
        Office x = Office.with(1, 16, 16);
        for (int s = 0; s < 16; s++) {
            Check.same("free", 16 - s, x.freeSeats(0));
            x.request(s, 0);
        }
        Check.same("none free", 0, x.freeSeats(0));
        Office y = queue(16);
        Check.same("no seats", 0, y.freeSeats(0));
        y.setSeats(0, 16);
        Check.same("all held", 0, y.freeSeats(0));
        y.leave(3, 0);
        Check.same("15 held", 1, y.freeSeats(0));
    }

    // Terms: "At the end of each call that returns, .. offers are made: as long as a course has a
    // free seat and .."
    static void terms_asManyOffersAsFreeSeats() {
        for (int seats = 0; seats <= 16; seats++) {
            Office x = queue(16);
            x.setSeats(0, seats);
            for (int s = 0; s < 16; s++) {
                Check.same("offer", s < seats ? 3 : 0, x.offerDays(s, 0));
            }
            Check.same("free", 0, x.freeSeats(0));
        }
    }

    // Terms: "At the end of each call that returns, .. as long as a course has a free seat and
    // there is, on its waiting list, a student .."
    static void terms_seatsStayFreeWhereNobodyIsLeftOnTheList() {
        Office x = queue(2);
        x.setSeats(0, 5);
        Check.same("two offers", 3, x.freeSeats(0));
        Office y = Office.with(1, 0, 3);
        y.setSeats(0, 4);
        Check.same("nobody on the list", 4, y.freeSeats(0));
    }

    // Terms: "At the end of each call that returns, .. a student without an offer for it and .."
    static void terms_oneOfferAStudent() {
        Office x = queue(3);
        x.setSeats(0, 1);
        x.advance(1);
        x.setSeats(0, 2);
        Check.same("the first keeps the day of the offer", 2, x.offerDays(0, 0));
        Check.same("the second gets the seat", 3, x.offerDays(1, 0));
        Check.same("no seat for the third", 0, x.offerDays(2, 0));
        Check.same("free", 0, x.freeSeats(0));
    }

    // Terms: "At the end of each call that returns, .. and without an obstacle for it, the first
    // such student gets an offer"
    static void terms_thoseWithObstaclesArePassedOver() {
        Office x = queue(4);
        x.addCourse(1, 1, 0);
        x.addPrerequisite(0, 1);
        x.pass(2, 1);
        x.pass(3, 1);
        x.setSeats(0, 1);
        Check.same("an obstacle", 0, x.offerDays(0, 0));
        Check.same("an obstacle", 0, x.offerDays(1, 0));
        Check.same("the first without one", 3, x.offerDays(2, 0));
        Check.same("not the next", 0, x.offerDays(3, 0));
        x.setSeats(0, 3);
        Check.same("the next", 3, x.offerDays(3, 0));
        Check.same("nobody is left who may", 1, x.freeSeats(0));
    }

    // Terms: "At the end of each call that returns, .. offers are made: .."
    static void terms_offersInSeveralCoursesAtOnce() {
        Office x = Office.with(3, 0, 2);
        x.addCourse(1, 1, 0);
        for (int c = 0; c < 3; c++) {
            x.request(0, c);
            x.addPrerequisite(c, 3);
            x.setSeats(c, 1);
        }
        x.pass(0, 3);
        for (int c = 0; c < 3; c++) {
            Check.same("an offer", 3, x.offerDays(0, c));
        }
    }

    // Terms: "At the end of each call that returns, .. offers are made: .."
    static void terms_eachCallThatMayGiveRiseToOffers() {
        Office x = Office.with(2, 1, 8);
        x.request(0, 0);
        x.request(0, 1);
        for (int s = 1; s < 8; s++) {
            x.request(s, 0);
        }
        x.setSeats(0, 2);
        Check.same("setSeats", 3, x.offerDays(1, 0));
        x.leave(1, 0);
        Check.same("leave", 3, x.offerDays(2, 0));
        x.pass(2, 0);
        Check.same("pass", 3, x.offerDays(3, 0));
        x.advance(3);
        Check.same("advance", 3, x.offerDays(4, 0));
        x.drop(0, 0);
        Check.same("drop", 3, x.offerDays(5, 0));
        x.accept(4, 0);
        x.setSeats(1, 2);
        x.drop(0, 1);
        x.change(4, 0, 1);
        Check.same("change", 3, x.offerDays(6, 0));
        Check.same("one is left", 0, x.offerDays(7, 0));
    }

    // Terms: "At the end of each call that returns, .. offers are made: .."
    static void terms_anExchangeMayGiveRiseToOffers() {
        Office x = new Office();
        x.addCourse(1, 1, 1);
        x.addCourse(1, 1, 2);
        x.addCourse(0, 1, 1);
        x.addStudent(0, 9);
        x.addStudent(0, 9);
        x.request(0, 2);
        for (int s = 0; s < 2; s++) {
            x.request(s, s);
            x.putUp(s, s);
            x.wish(s, 1 - s);
        }
        x.setSeats(2, 1);
        Check.same("a clash", 0, x.offerDays(0, 2));
        x.runExchange();
        Check.same("none any more", 3, x.offerDays(0, 2));
    }

    // Terms: "At the end of .. each day within advance(), offers are made: .."
    static void terms_offersOnEachDayOfAnAdvance() {
        Office x = queue(4);
        x.setSeats(0, 1);
        Check.same("on the days 3 and 6", 2, x.advance(7));
        Check.same("the third since day 6", 2, x.offerDays(2, 0));
        Check.same("not the fourth", 0, x.offerDays(3, 0));
    }

    // Terms: "An offer is no enrolment: it counts neither as credits nor as hours of the student,
    // .."
    static void terms_anOfferCountsNeitherAsCreditsNorAsHours() {
        Office x = new Office();
        x.addCourse(0, 7, 1);
        x.addCourse(1, 4, 1);
        x.addStudent(0, 10);
        x.request(0, 0);
        x.setSeats(0, 1);
        Check.same("an offer", 3, x.offerDays(0, 0));
        Check.same("credits", 0, x.credits(0));
        Check.same("enrolled", 0, x.enrolled(0));
        Check.no("enrolled", x.isEnrolled(0, 0));
        Check.same("neither 11 credits nor a clash", NO_OBSTACLE, x.obstacle(0, 1));
    }

    // Terms: "An offer is no enrolment: .. and it stays if an obstacle arises later"
    static void terms_anOfferStaysWithEachObstacle() {
        Office x = new Office();
        x.addCourse(0, 7, 1);
        x.addCourse(1, 4, 2);
        x.addCourse(1, 1, 1);
        x.addStudent(0, 10);
        x.request(0, 0);
        x.setSeats(0, 1);
        x.request(0, 1);
        Check.same("credits", CREDITS, x.obstacle(0, 0));
        Check.same("stays", 3, x.offerDays(0, 0));
        x.change(0, 1, 2);
        Check.same("hours", CLASH, x.obstacle(0, 0));
        Check.same("stays", 3, x.offerDays(0, 0));
        x.addPrerequisite(0, 1);
        x.advance(2);
        Check.same("a prerequisite", PREREQUISITE, x.obstacle(0, 0));
        Check.same("stays to its last day", 1, x.offerDays(0, 0));
        Check.same("held all the time", 0, x.freeSeats(0));
    }

    // ---- days

    // Terms: "The first day is the day 0"
    static void terms_theFirstDayIs0() {
        Check.same("day", 0, new Office().day());
    }

    // Terms: "An offer can be accepted on the day on which it is made and on the two days after
    // it"
    static void terms_acceptedOnThreeDays() {
        for (int days = 0; days <= 2; days++) {
            Office x = queue(1);
            x.advance(5);
            x.setSeats(0, 1);
            for (int i = 0; i < days; i++) {
                x.advance(1);
            }
            Check.same("accepted after " + days, 1, x.accept(0, 0));
            Check.yes("enrolled", x.isEnrolled(0, 0));
        }
    }

    // Terms: "when the third day after it begins, it expires, and the student leaves the waiting
    // list of that course"
    static void terms_expiresWhenTheThirdDayBegins() {
        Office x = Office.with(2, 0, 1);
        x.request(0, 0);
        x.request(0, 1);
        x.advance(5);
        x.setSeats(0, 1);
        Check.same("not before", 0, x.advance(2));
        Check.same("on the list", 1, x.waiting(0));
        Check.same("expired", 1, x.advance(1));
        Check.same("off the list", 0, x.waiting(0));
        Check.same("no offer", 0, x.offerDays(0, 0));
        Check.same("no longer held", 1, x.freeSeats(0));
        Check.badState(x, () -> x.accept(0, 0));
        Check.badState(x, () -> x.leave(0, 0));
        Check.same("on the other list still", 1, x.waiting(1));
    }

    // ---- enrolling

    private interface Way {
        void enrol(Office x);
    }

    /** Each way in which student 0, who wishes 2, 0 and 1, becomes enrolled in course 0. */
    private static void inEachWay(Way check) {
        Office x = enrolling(1);
        x.request(0, 0);
        check.enrol(x);
        x = enrolling(0);
        x.request(0, 0);
        x.setSeats(0, 1);
        x.accept(0, 0);
        check.enrol(x);
        x = enrolling(1);
        x.request(0, 3);
        x.change(0, 3, 0);
        check.enrol(x);
        x = enrolling(1);
        x.setSeats(2, 0);
        x.runLottery(1);
        check.enrol(x);
        x = enrolling(1);
        x.request(0, 3);
        x.request(1, 0);
        x.wish(1, 3);
        x.putUp(0, 3);
        x.putUp(1, 0);
        Check.same("exchanged", 2, x.runExchange());
        check.enrol(x);
    }

    private static Office enrolling(int seats) {
        Office x = Office.with(4, 1, 2);
        x.setSeats(0, seats);
        x.wish(0, 2);
        x.wish(0, 0);
        x.wish(0, 1);
        return x;
    }

    // Terms: "Whenever a student becomes enrolled in a course, in whatever way, the course is
    // taken out of the student's wishes (the other wishes keep their order), .."
    static void terms_enrollingTakesOutTheWish() {
        inEachWay(x -> {
            Check.yes("enrolled", x.isEnrolled(0, 0));
            Check.same("wishes", 2, x.wishes(0));
            Check.same("the one before it", 2, x.wishAt(0, 0));
            Check.same("the one after it", 1, x.wishAt(0, 1));
        });
    }

    /**
     * Student 0 has an offer for course 0, of three seats; student 1, on its list too, may not
     * have one; another seat is free. Student 0 has course 3 for a change or an exchange.
     */
    private static Office offered() {
        Office x = Office.with(4, 1, 3);
        x.setSeats(0, 1);
        x.request(2, 0);
        x.request(0, 0);
        x.request(1, 0);
        x.addPrerequisite(0, 1);
        x.pass(0, 1);
        x.setSeats(0, 3);
        x.request(0, 3);
        Check.same("an offer", 3, x.offerDays(0, 0));
        Check.same("another seat is free", 1, x.freeSeats(0));
        return x;
    }

    private static void inEachWayWithAnOffer(Way check) {
        Office x = offered();
        x.accept(0, 0);
        check.enrol(x);
        x = offered();
        x.change(0, 3, 0);
        check.enrol(x);
        x = offered();
        x.wish(0, 0);
        x.runLottery(1);
        check.enrol(x);
        x = offered();
        x.wish(0, 0);
        x.wish(2, 3);
        x.putUp(0, 3);
        x.putUp(2, 0);
        Check.same("exchanged", 2, x.runExchange());
        x.setSeats(0, 2);
        check.enrol(x);
    }

    // Terms: "Whenever a student becomes enrolled in a course, in whatever way, .. and the
    // student leaves the waiting list of the course"
    static void terms_enrollingLeavesTheWaitingList() {
        inEachWayWithAnOffer(x -> {
            Check.yes("enrolled", x.isEnrolled(0, 0));
            Check.same("waiting", 1, x.waiting(0));
            Check.same("the other one", 1, x.waitingAt(0, 0));
        });
    }

    // Terms: "an offer that the student had for it ends, so that its seat is no longer held"
    static void terms_enrollingEndsTheOffer() {
        inEachWayWithAnOffer(x -> {
            Check.same("no offer", 0, x.offerDays(0, 0));
            Check.same("the seat is free", 1, x.freeSeats(0));
        });
    }

    // Terms: "A place that a student has put up for exchange is withdrawn as soon as the student
    // is not enrolled in that course any more"
    static void terms_aPlaceUpIsWithdrawnWithItsEnrolment() {
        Office x = Office.with(3, 1, 2);
        x.request(0, 0);
        x.putUp(0, 0);
        x.drop(0, 0);
        Check.same("drop", NONE, x.placeUp(0));
        x.request(0, 0);
        Check.same("not up again", NONE, x.placeUp(0));
        x.putUp(0, 0);
        x.change(0, 0, 2);
        Check.same("change", NONE, x.placeUp(0));
        x.putUp(0, 2);
        x.request(1, 1);
        x.putUp(1, 1);
        x.wish(0, 1);
        x.wish(1, 2);
        Check.same("exchanged", 2, x.runExchange());
        Check.same("runExchange", NONE, x.placeUp(0));
        Check.same("runExchange", NONE, x.placeUp(1));
    }

    // Terms: "A place that a student has put up for exchange is withdrawn as soon as the student
    // is not enrolled in that course any more"
    static void terms_aPlaceUpStaysWhileEnrolled() {
        Office x = Office.with(4, 1, 2);
        x.request(0, 0);
        x.request(0, 1);
        x.putUp(0, 0);
        x.change(0, 1, 2);
        x.drop(0, 2);
        x.pass(0, 3);
        x.runLottery(0);
        x.runExchange();
        x.advance(7);
        Check.same("still up", 0, x.placeUp(0));
    }

    // ---- exceptions

    /**
     * An office in which all goes on at once: 0 has course 0 and an offer for 1, 1 has course 1
     * and has put it up, 2 waits for both, 3 has passed course 2; each one wishes something.
     */
    private static Office busy() {
        Office x = new Office();
        x.addCourse(1, 3, 1);
        x.addCourse(1, 4, 2);
        x.addCourse(2, 5, 4);
        for (int s = 0; s < 4; s++) {
            x.addStudent(s, 10 + s);
        }
        x.request(0, 0);
        x.request(1, 1);
        x.request(0, 1);
        x.request(2, 1);
        x.request(2, 0);
        x.setSeats(1, 2);
        x.addPrerequisite(1, 2);
        x.pass(3, 2);
        x.putUp(1, 1);
        x.wish(0, 2);
        x.wish(1, 0);
        x.wish(2, 0);
        x.wish(3, 1);
        x.advance(1);
        return x;
    }

    // Terms: "IndexOutOfBoundsException is thrown if there is no such student, course or place in
    // a list"
    static void terms_noSuchStudentCourseOrPlace() {
        Office x = busy();
        Check.refusesStudents(x, x::credits);
        Check.refusesCourses(x, x::enrolled);
        Check.refusesNumbers(x, 1, place -> x.wishAt(0, place));
        Check.refusesNumbers(x, 2, place -> x.waitingAt(1, place));
    }

    // Terms: "IllegalArgumentException if another argument is out of its range"
    static void terms_otherArgumentsOutOfRange() {
        Office x = busy();
        for (int below : new int[] {-1, Integer.MIN_VALUE}) {
            Check.badArgument(x, () -> x.addCourse(below, 1, 0));
            Check.badArgument(x, () -> x.addCourse(1, below, 0));
            Check.badArgument(x, () -> x.addCourse(1, 1, below));
            Check.badArgument(x, () -> x.setSeats(0, below));
            Check.badArgument(x, () -> x.addStudent(below, 9));
            Check.badArgument(x, () -> x.addStudent(0, below));
            Check.badArgument(x, () -> x.advance(below));
            Check.badArgument(x, () -> x.runLottery(below));
        }
    }

    // Terms: "IllegalStateException as each method tells"
    static void terms_whatTheStateForbids() {
        Office x = busy();
        Check.badState(x, () -> x.setSeats(0, 0));
        Check.badState(x, () -> x.addPrerequisite(1, 2));
        Check.badState(x, () -> x.pass(3, 2));
        Check.badState(x, () -> x.wish(0, 2));
        Check.badState(x, () -> x.dropWish(0, 1));
        Check.badState(x, () -> x.request(2, 1));
        Check.badState(x, () -> x.drop(0, 1));
        Check.badState(x, () -> x.change(0, 0, 1));
        Check.badState(x, () -> x.accept(0, 1));
        Check.badState(x, () -> x.leave(3, 1));
        Check.badState(x, () -> x.putUp(0, 1));
        Check.badState(x, () -> x.pointsTo(0));
    }

    // Terms: "If several apply, the one that comes first in the throws clause is thrown"
    static void terms_theArgumentBeforeTheState() {
        Office x = Office.with(20, 1, 16);
        x.request(0, 0);
        Check.badState(x, () -> x.addCourse(1, 1, 0));
        Check.badArgument(x, () -> x.addCourse(17, 1, 0));
        Check.badArgument(x, () -> x.addCourse(1, 13, 0));
        Check.badArgument(x, () -> x.addCourse(1, 1, -1));
        Check.badState(x, () -> x.addStudent(0, 1));
        Check.badArgument(x, () -> x.addStudent(4, 1));
        Check.badArgument(x, () -> x.addStudent(0, 41));
        Check.badState(x, () -> x.setSeats(0, 0));
        Check.badArgument(x, () -> x.setSeats(0, -1));
    }

    // Terms: "If several apply, the one that comes first in the throws clause is thrown"
    static void terms_theIndexBeforeTheArgument() {
        Office x = busy();
        Check.refusesCourses(x, c -> x.setSeats(c, -1));
        Check.refusesCourses(x, c -> x.setSeats(c, 17));
    }

    // Terms: "If several apply, the one that comes first in the throws clause is thrown"
    static void terms_theIndexBeforeTheState() {
        Office x = new Office();
        x.addCourse(1, 1, 0);
        x.addStudent(0, 1);
        x.pass(0, 0);
        Check.badState(x, () -> x.change(0, 0, 0));
        Check.refusesCourses(x, c -> x.setSeats(c, 0));
        Check.refusesCourses(x, c -> x.addPrerequisite(c, c));
        Check.refusesUnknown(x, x::pass);
        Check.refusesUnknown(x, x::wish);
        Check.refusesUnknown(x, x::dropWish);
        Check.refusesUnknown(x, x::request);
        Check.refusesUnknown(x, x::drop);
        Check.refusesUnknown(x, (s, c) -> x.change(s, 0, c));
        Check.refusesUnknown(x, (s, c) -> x.change(s, c, 0));
        Check.refusesUnknown(x, (s, c) -> x.change(s, c, c));
        Check.refusesUnknown(x, x::accept);
        Check.refusesUnknown(x, x::leave);
        Check.refusesUnknown(x, x::putUp);
        Check.refusesStudents(x, x::pointsTo);
    }

    // Terms: "A call that throws changes nothing"
    static void terms_whatThrowsChangesNothing() {
        Office x = busy();
        for (Check.AskingBoth asking : new Check.AskingBoth[] {x::pass, x::wish, x::dropWish,
            x::request, x::drop, x::accept, x::leave, x::putUp}) {
            Check.noSuch(x, () -> asking.ask(0, 3));
            Check.noSuch(x, () -> asking.ask(4, 1));
        }
        Check.badState(x, () -> x.pass(0, 0));
        Check.badState(x, () -> x.wish(1, 1));
        Check.badState(x, () -> x.dropWish(2, 1));
        Check.badState(x, () -> x.request(0, 1));
        Check.badState(x, () -> x.drop(3, 1));
        Check.badState(x, () -> x.change(1, 1, 0));
        Check.badState(x, () -> x.accept(0, 1));
        Check.badState(x, () -> x.leave(1, 1));
        Check.badState(x, () -> x.putUp(1, 0));
        Check.badArgument(x, () -> x.advance(8));
        Check.badArgument(x, () -> x.runLottery(-1));
        Check.badArgument(x, () -> x.setSeats(0, 17));
        Check.badState(x, () -> x.setSeats(1, 1));
        Check.badState(x, () -> x.addPrerequisite(2, 1));
    }

    // ---- constants

    // Terms: "The constants: NONE = -1: No number"
    static void terms_noneIsBelowAllNumbers() {
        Office x = Office.with(1, 1, 1);
        Check.same("NONE", -1, NONE);
        Check.same("no lottery number", -1, x.lotteryNumber(0));
        Check.same("no place up", -1, x.placeUp(0));
    }

    // Terms: "NO_OBSTACLE = 0: Obstacle: there is none"
    static void terms_noObstacleIs0() {
        Check.same("NO_OBSTACLE", 0, NO_OBSTACLE);
        Check.same("none", 0, Office.with(1, 1, 1).obstacle(0, 0));
    }

    // Terms: "PASSED = 1: Obstacle: the student has passed the course"
    static void terms_passedIs1() {
        Office x = Office.with(1, 1, 1);
        x.pass(0, 0);
        Check.same("PASSED", 1, PASSED);
        Check.same("passed", 1, x.obstacle(0, 0));
    }

    // Terms: "ENROLLED = 2: Obstacle: the student is enrolled in the course"
    static void terms_enrolledIs2() {
        Office x = Office.with(1, 1, 1);
        x.request(0, 0);
        Check.same("ENROLLED", 2, ENROLLED);
        Check.same("enrolled", 2, x.obstacle(0, 0));
    }

    // Terms: "PREREQUISITE = 3: Obstacle: the student has not passed a course that is required"
    static void terms_prerequisiteIs3() {
        Check.same("PREREQUISITE", 3, PREREQUISITE);
        Check.same("prerequisite", 3, chain(2).obstacle(0, 1));
    }

    // Terms: "CREDITS = 4: Obstacle: the credit limit of the student"
    static void terms_creditsIs4() {
        Office x = new Office();
        x.addCourse(1, 2, 0);
        x.addStudent(0, 1);
        Check.same("CREDITS", 4, CREDITS);
        Check.same("credits", 4, x.obstacle(0, 0));
    }

    // Terms: "CLASH = 5: Obstacle: a course in which the student is enrolled is at the same hour"
    static void terms_clashIs5() {
        Office x = new Office();
        x.addCourse(1, 1, 1);
        x.addCourse(1, 1, 1);
        x.addStudent(0, 40);
        x.request(0, 0);
        Check.same("CLASH", 5, CLASH);
        Check.same("clash", 5, x.obstacle(0, 1));
    }
}
