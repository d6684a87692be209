/** Promises 34 to 38: exchanges of places. */
final class ExchangeTests {
    private static final int NONE = CourseEnrolment.NONE;
    private static final int LOW = Integer.MIN_VALUE;
    private static final int HIGH = Integer.MAX_VALUE;
    private static final int[] NO_STUDENTS = {-1, 5, 16, LOW, HIGH};
    private static final int[] NO_COURSES = {-1, 5, 20, LOW, HIGH};

    private ExchangeTests() {
    }

    /** Five courses of one seat, 2 credits and an hour each; student s has the place of s. */
    private static CourseEnrolment office() {
        CourseEnrolment x = new CourseEnrolment();
        for (int s = 0; s < 5; s++) {
            x.addCourse(1, 2, 1 << s);
            x.addStudent(0, 20);
            x.request(s, s);
        }
        return x;
    }

    /** The office with all places up. */
    private static CourseEnrolment allUp() {
        CourseEnrolment x = office();
        for (int s = 0; s < 5; s++) {
            x.putUp(s, s);
        }
        return x;
    }

    private static void wish(CourseEnrolment x, int student, int... courses) {
        for (int c : courses) {
            x.wish(student, c);
        }
    }

    static void p34_returnsThePlacePutUpBefore() {
        CourseEnrolment x = office();
        x.drop(4, 4);
        x.request(0, 4);
        Check.same("none before", NONE, x.putUp(0, 4));
        Check.same("another one", 4, x.putUp(0, 0));
        Check.same("the same one", 0, x.putUp(0, 0));
        Check.same("up", 0, x.placeUp(0));
        Check.yes("still enrolled", x.isEnrolled(0, 0));
        Check.yes("still enrolled", x.isEnrolled(0, 4));
        Check.same("other student", NONE, x.placeUp(1));
        Check.same("credits", 4, x.credits(0));
    }

    static void p34_onlyAPlaceOfOnesOwn() {
        CourseEnrolment x = office();
        x.request(0, 1);
        Check.badState(x, () -> x.putUp(0, 1));
        Check.badState(x, () -> x.putUp(0, 2));
        x.drop(1, 1);
        Check.same("an offer", 3, x.offerDays(0, 1));
        Check.badState(x, () -> x.putUp(0, 1));
        Check.badState(x, () -> x.putUp(1, 1));
        x.putUp(0, 0);
        Check.badState(x, () -> x.putUp(0, 2));
        x.pass(0, 2);
        Check.badState(x, () -> x.putUp(0, 2));
        for (int s : NO_STUDENTS) {
            Check.noSuch(x, () -> x.putUp(s, 0));
            Check.noSuch(x, () -> x.putUp(s, 5));
        }
        for (int c : NO_COURSES) {
            Check.noSuch(x, () -> x.putUp(0, c));
        }
    }

    static void p35_returnsThePlaceWithdrawn() {
        CourseEnrolment x = office();
        Check.same("none", NONE, x.withdraw(3));
        x.putUp(3, 3);
        x.putUp(2, 2);
        Check.same("one", 3, x.withdraw(3));
        Check.same("no more", NONE, x.placeUp(3));
        Check.same("none", NONE, x.withdraw(3));
        Check.yes("still enrolled", x.isEnrolled(3, 3));
        Check.same("other student", 2, x.placeUp(2));
        for (int s : NO_STUDENTS) {
            Check.noSuch(x, () -> x.withdraw(s));
        }
    }

    static void p35_whatIsWithdrawnIsNotExchanged() {
        CourseEnrolment x = allUp();
        wish(x, 0, 1);
        wish(x, 1, 0);
        x.withdraw(1);
        Check.same("none", 0, x.runExchange());
        Check.same("points to itself", 0, x.pointsTo(0));
    }

    static void p36_tellsThePlacePutUp() {
        CourseEnrolment x = office();
        Check.same("none", NONE, x.placeUp(0));
        x.putUp(0, 0);
        Check.same("up", 0, x.placeUp(0));
        x.drop(0, 0);
        Check.same("withdrawn with the enrolment", NONE, x.placeUp(0));
        x.request(0, 0);
        Check.same("not up again", NONE, x.placeUp(0));
        x.putUp(4, 4);
        x.setSeats(4, 2);
        x.advance(7);
        x.runLottery(1);
        Check.same("up", 4, x.placeUp(4));
        for (int s : NO_STUDENTS) {
            Check.noSuch(x, () -> x.placeUp(s));
        }
    }

    static void p37_theFirstWishThatIsUp() {
        CourseEnrolment x = office();
        wish(x, 0, 3, 2, 1);
        x.putUp(0, 0);
        Check.same("itself", 0, x.pointsTo(0));
        x.putUp(1, 1);
        Check.same("the third wish", 1, x.pointsTo(0));
        x.putUp(2, 2);
        Check.same("the second wish", 2, x.pointsTo(0));
        x.putUp(3, 3);
        Check.same("the first wish", 3, x.pointsTo(0));
        x.putUp(4, 4);
        Check.same("no wish", 3, x.pointsTo(0));
        Check.same("without wishes to itself", 4, x.pointsTo(4));
    }

    static void p37_ofSeveralTheLowestNumber() {
        CourseEnrolment x = new CourseEnrolment();
        x.addCourse(3, 1, 0);
        x.addCourse(3, 1, 0);
        for (int s = 0; s < 4; s++) {
            x.addStudent(0, 9);
            x.request(s, s == 3 ? 1 : 0);
        }
        x.wish(3, 0);
        x.putUp(3, 1);
        x.putUp(2, 0);
        Check.same("the only one", 2, x.pointsTo(3));
        x.putUp(1, 0);
        Check.same("the lowest", 1, x.pointsTo(3));
        x.putUp(0, 0);
        Check.same("the lowest, 0", 0, x.pointsTo(3));
        x.withdraw(0);
        Check.same("the lowest left", 1, x.pointsTo(3));
    }

    static void p37_enrolledIsNotUp() {
        CourseEnrolment x = office();
        x.request(0, 1);
        x.drop(1, 1);
        x.accept(0, 1);
        x.putUp(0, 0);
        wish(x, 2, 1);
        x.putUp(2, 2);
        Check.same("1 is taken, but not up", 2, x.pointsTo(2));
        x.putUp(0, 1);
        Check.same("now it is", 0, x.pointsTo(2));
    }

    static void p37_onlyAcceptableCourses() {
        CourseEnrolment x = new CourseEnrolment();
        x.addCourse(1, 4, 1);
        x.addCourse(1, 5, 2);
        x.addCourse(1, 4, 4 | 8);
        x.addCourse(1, 4, 1 | 16);
        x.addCourse(1, 4, 8);
        x.addCourse(1, 1, 0);
        for (int s = 0; s < 6; s++) {
            x.addStudent(0, s == 0 ? 8 : 40);
            x.request(s, s);
            x.putUp(s, s);
        }
        x.drop(4, 4);
        x.request(0, 4);
        wish(x, 0, 1, 2, 5, 3);
        x.addPrerequisite(5, 4);
        Check.same("credits, a clash, a prerequisite; not the place up", 3, x.pointsTo(0));
        x.drop(0, 4);
        Check.same("the first one", 1, x.pointsTo(0));
        x.request(4, 4);
        x.putUp(4, 4);
        x.dropWish(0, 1);
        Check.same("no clash any more", 2, x.pointsTo(0));
    }

    static void p37_onlyForThoseWithAPlaceUp() {
        CourseEnrolment x = office();
        Check.badState(x, () -> x.pointsTo(0));
        x.putUp(0, 0);
        x.putUp(1, 1);
        x.withdraw(0);
        Check.badState(x, () -> x.pointsTo(0));
        x.drop(1, 1);
        Check.badState(x, () -> x.pointsTo(1));
        for (int s : NO_STUDENTS) {
            Check.noSuch(x, () -> x.pointsTo(s));
        }
    }

    static void p38_aCircleOfTwo() {
        CourseEnrolment x = allUp();
        wish(x, 0, 1, 4);
        wish(x, 1, 3, 0);
        x.withdraw(3);
        Check.same("two", 2, x.runExchange());
        Check.yes("0 has 1", x.isEnrolled(0, 1));
        Check.no("0 has left 0", x.isEnrolled(0, 0));
        Check.yes("1 has 0", x.isEnrolled(1, 0));
        Check.no("1 has left 1", x.isEnrolled(1, 1));
        Check.same("withdrawn", NONE, x.placeUp(0));
        Check.same("withdrawn", NONE, x.placeUp(1));
        Check.same("stays put up", 2, x.placeUp(2));
        Check.same("the other wish", 4, x.wishAt(0, 0));
        Check.same("wishes", 1, x.wishes(0));
        Check.same("the other wish", 3, x.wishAt(1, 0));
        Check.same("places", 1, x.enrolled(0));
        Check.same("free", 0, x.freeSeats(0));
        Check.same("credits", 2, x.credits(0));
    }

    static void p38_aLongCircleAndOnesBesideIt() {
        CourseEnrolment x = allUp();
        wish(x, 0, 2);
        wish(x, 2, 4);
        wish(x, 4, 1);
        wish(x, 1, 0);
        wish(x, 3, 0, 1, 2, 4);
        Check.same("four", 4, x.runExchange());
        Check.yes("0 has 2", x.isEnrolled(0, 2));
        Check.yes("2 has 4", x.isEnrolled(2, 4));
        Check.yes("4 has 1", x.isEnrolled(4, 1));
        Check.yes("1 has 0", x.isEnrolled(1, 0));
        Check.yes("3 keeps 3", x.isEnrolled(3, 3));
        Check.same("and it stays up", 3, x.placeUp(3));
        Check.same("its wishes stay", 4, x.wishes(3));
        Check.same("nothing more", 0, x.runExchange());
    }

    static void p38_laterRoundsPointAnew() {
        CourseEnrolment x = allUp();
        wish(x, 0, 1);
        wish(x, 1, 0);
        wish(x, 2, 0, 3);
        wish(x, 3, 1, 0, 2);
        wish(x, 4, 2, 0, 3, 1);
        Check.same("at first", 0, x.pointsTo(2));
        Check.same("at first", 1, x.pointsTo(3));
        Check.same("two circles", 4, x.runExchange());
        Check.yes("2 has 3", x.isEnrolled(2, 3));
        Check.yes("3 has 2", x.isEnrolled(3, 2));
        Check.yes("4 keeps 4", x.isEnrolled(4, 4));
        Check.same("the first wish of 2 stays", 0, x.wishAt(2, 0));
        Check.same("both others of 3 stay", 2, x.wishes(3));
    }

    static void p38_whoPointsToItselfIsDone() {
        CourseEnrolment x = allUp();
        wish(x, 0, 1, 2);
        wish(x, 2, 0);
        Check.same("0 points to 1", 1, x.pointsTo(0));
        Check.same("1 keeps its place, then 0 and 2", 2, x.runExchange());
        Check.yes("0 has 2", x.isEnrolled(0, 2));
        Check.yes("2 has 0", x.isEnrolled(2, 0));
        Check.yes("1 keeps 1", x.isEnrolled(1, 1));
        Check.same("stays up", 1, x.placeUp(1));
        Check.same("the wish for it stays", 1, x.wishAt(0, 0));
    }

    static void p38_twoCirclesAtOnce() {
        CourseEnrolment x = allUp();
        wish(x, 0, 3);
        wish(x, 3, 0);
        wish(x, 1, 4);
        wish(x, 4, 1);
        Check.same("four", 4, x.runExchange());
        Check.yes("0 has 3", x.isEnrolled(0, 3));
        Check.yes("3 has 0", x.isEnrolled(3, 0));
        Check.yes("1 has 4", x.isEnrolled(1, 4));
        Check.yes("4 has 1", x.isEnrolled(4, 1));
    }

    static void p38_theLowestNumberAmongThoseNotDone() {
        CourseEnrolment x = new CourseEnrolment();
        x.addCourse(4, 1, 0);
        x.addCourse(4, 1, 0);
        for (int s = 0; s < 6; s++) {
            x.addStudent(0, 9);
            x.request(s, s < 3 ? 0 : 1);
            x.putUp(s, s < 3 ? 0 : 1);
        }
        x.wish(1, 1);
        x.wish(2, 1);
        x.wish(4, 0);
        x.wish(5, 0);
        Check.same("the lowest of course 1", 3, x.pointsTo(1));
        Check.same("the lowest of course 0", 0, x.pointsTo(5));
        Check.same("1 with 4, 2 with 5", 4, x.runExchange());
        Check.yes("1 has 1", x.isEnrolled(1, 1));
        Check.yes("2 has 1", x.isEnrolled(2, 1));
        Check.yes("4 has 0", x.isEnrolled(4, 0));
        Check.yes("5 has 0", x.isEnrolled(5, 0));
        Check.same("0 keeps its place up", 0, x.placeUp(0));
        Check.same("3 keeps its place up", 1, x.placeUp(3));
    }

    static void p38_tiesDecideWhoGetsAPlace() {
        CourseEnrolment x = new CourseEnrolment();
        x.addCourse(4, 1, 0);
        x.addCourse(4, 1, 0);
        for (int s = 0; s < 4; s++) {
            x.addStudent(0, 9);
            x.request(s, s == 0 ? 1 : 0);
            x.putUp(s, s == 0 ? 1 : 0);
        }
        for (int s = 1; s < 4; s++) {
            x.wish(s, 1);
        }
        x.wish(0, 0);
        Check.same("one circle", 2, x.runExchange());
        Check.yes("the lowest one", x.isEnrolled(1, 1));
        Check.no("not the next", x.isEnrolled(2, 1));
        Check.no("nor the last", x.isEnrolled(3, 1));
        Check.yes("0 has 0", x.isEnrolled(0, 0));
    }

    static void p38_acceptableWithoutThePlacePutUp() {
        CourseEnrolment x = new CourseEnrolment();
        x.addCourse(1, 6, 1);
        x.addCourse(1, 7, 1 | 2);
        x.addCourse(1, 3, 4);
        x.addStudent(0, 10);
        x.addStudent(0, 10);
        x.request(0, 0);
        x.request(0, 2);
        x.request(1, 1);
        wish(x, 0, 1);
        wish(x, 1, 0);
        x.putUp(1, 1);
        x.putUp(0, 2);
        Check.same("without the place in 2 it still clashes", 0, x.runExchange());
        x.putUp(0, 0);
        Check.same("up to the limit", 2, x.runExchange());
        Check.same("credits", 10, x.credits(0));
        Check.same("credits", 6, x.credits(1));
    }

    static void p38_unacceptableWishesArePassedOver() {
        CourseEnrolment x = allUp();
        wish(x, 0, 1, 2);
        wish(x, 1, 0);
        wish(x, 2, 0);
        x.addPrerequisite(1, 4);
        Check.same("0 may not have 1", 2, x.runExchange());
        Check.yes("0 has 2", x.isEnrolled(0, 2));
        Check.yes("1 keeps 1", x.isEnrolled(1, 1));
        Check.same("the wish stays", 1, x.wishAt(0, 0));
    }

    static void p38_thePlacePutUpIsNoPrerequisite() {
        CourseEnrolment x = allUp();
        wish(x, 0, 1);
        wish(x, 1, 0);
        x.addPrerequisite(1, 0);
        Check.same("none", 0, x.runExchange());
        x.drop(0, 0);
        x.pass(0, 0);
        Check.same("none", 0, x.runExchange());
    }

    static void p38_leavesTheWaitingListAndEndsTheOffer() {
        CourseEnrolment x = allUp();
        x.setSeats(1, 2);
        x.request(4, 1);
        x.request(0, 1);
        x.request(2, 1);
        x.drop(4, 1);
        Check.same("an offer", 3, x.offerDays(0, 1));
        wish(x, 0, 1);
        wish(x, 1, 0);
        Check.same("two", 2, x.runExchange());
        Check.same("no offer any more", 0, x.offerDays(0, 1));
        Check.same("the next has it", 3, x.offerDays(2, 1));
        Check.same("waiting", 1, x.waiting(1));
        Check.same("enrolled", 1, x.enrolled(1));
    }

    static void p38_offersWhereTheObstacleEnds() {
        CourseEnrolment x = allUp();
        x.addCourse(0, 1, 1);
        x.request(1, 5);
        wish(x, 0, 1);
        wish(x, 1, 0);
        x.runExchange();
        x.setSeats(5, 1);
        Check.same("1 has 0 now, which clashes", 0, x.offerDays(1, 5));
        wish(x, 0, 0);
        wish(x, 1, 1);
        x.putUp(0, 1);
        x.putUp(1, 0);
        Check.same("back again", 2, x.runExchange());
        Check.same("no clash any more", 3, x.offerDays(1, 5));
    }

    static void p38_otherPlacesStay() {
        CourseEnrolment x = office();
        x.setSeats(4, 2);
        x.request(0, 4);
        x.putUp(0, 0);
        x.putUp(1, 1);
        wish(x, 0, 1);
        wish(x, 1, 0);
        x.runExchange();
        Check.yes("beside the exchange", x.isEnrolled(0, 4));
        Check.same("credits", 4, x.credits(0));
    }

    static void p38_withoutPlacesUp() {
        CourseEnrolment x = office();
        wish(x, 0, 1);
        wish(x, 1, 0);
        Check.same("nobody", 0, x.runExchange());
        x.putUp(0, 0);
        Check.same("one alone", 0, x.runExchange());
        Check.same("stays up", 0, x.placeUp(0));
    }

    static void p38_all16OnOneCircle() {
        CourseEnrolment x = new CourseEnrolment();
        for (int s = 0; s < 16; s++) {
            x.addCourse(1, 1, 0);
            x.addStudent(0, 9);
            x.request(s, s);
            x.putUp(s, s);
        }
        for (int s = 0; s < 16; s++) {
            x.wish(s, (s + 5) % 16);
        }
        Check.same("all", 16, x.runExchange());
        for (int s = 0; s < 16; s++) {
            Check.yes("the next but four", x.isEnrolled(s, (s + 5) % 16));
        }
    }

    static void p38_aRoundForEachStudent() {
        CourseEnrolment x = new CourseEnrolment();
        for (int s = 0; s < 16; s++) {
            x.addCourse(1, 1, 0);
            x.addStudent(0, 9);
            x.request(s, s);
            x.putUp(s, s);
        }
        for (int s = 1; s < 16; s++) {
            x.wish(s, s - 1);
        }
        Check.same("each is done after the one before it", 0, x.runExchange());
        Check.same("all stay up", 15, x.placeUp(15));
        Check.same("at the beginning", 14, x.pointsTo(15));
    }
}
