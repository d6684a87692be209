/** Promises 34 to 38: exchanges of places. */
final class ExchangeTests {
    private static final int NONE = CourseEnrolment.NONE;

    private ExchangeTests() {
    }

    /** Courses of one seat, 2 credits and an hour each; student s has the place of s. */
    private static Office office(int students) {
        Office x = new Office();
        for (int s = 0; s < students; s++) {
            x.addCourse(1, 2, 1 << s);
            x.addStudent(0, 20);
            x.request(s, s);
        }
        return x;
    }

    /** The office with all places up. */
    private static Office allUp(int students) {
        Office x = office(students);
        for (int s = 0; s < students; s++) {
            x.putUp(s, s);
        }
        return x;
    }

    private static void wish(Office x, int student, int... courses) {
        for (int c : courses) {
            x.wish(student, c);
        }
    }

    /** Student s has the course named at place s, of those that were put up. */
    private static void samePlaces(Office x, int... due) {
        for (int s = 0; s < due.length; s++) {
            for (int c = 0; c < due.length; c++) {
                Check.same("student " + s + " in course " + c, due[s] == c ? 1 : 0,
                        x.isEnrolled(s, c) ? 1 : 0);
            }
        }
    }

    // Promise 34: "Puts up a place for exchange, in place of one that the student had put up
    // before"
    static void p34_oneAtATime() {
        Office x = office(3);
        x.drop(2, 2);
        x.request(0, 2);
        x.putUp(0, 0);
        Check.same("the first", 0, x.placeUp(0));
        x.putUp(0, 2);
        Check.same("in place of it", 2, x.placeUp(0));
        Check.same("other student", NONE, x.placeUp(1));
        wish(x, 1, 0, 2);
        x.putUp(1, 1);
        Check.same("0 is up no more", 0, x.pointsTo(1));
        x.dropWish(1, 2);
        Check.same("nobody has 0 up", 1, x.pointsTo(1));
    }

    // Promise 34: "A student stays enrolled in the course meanwhile"
    static void p34_staysEnrolled() {
        Office x = office(2);
        x.putUp(0, 0);
        Check.yes("enrolled", x.isEnrolled(0, 0));
        Check.same("places", 1, x.enrolled(0));
        Check.same("free", 0, x.freeSeats(0));
        Check.same("credits", 2, x.credits(0));
        Check.same("obstacle", CourseEnrolment.ENROLLED, x.obstacle(0, 0));
        Check.same("no seat for others", 1, x.request(1, 0));
    }

    // Promise 34: "Returns the number of the course that was put up before"
    static void p34_returnsThePlacePutUpBefore() {
        Office x = office(2);
        x.drop(1, 1);
        x.request(0, 1);
        x.putUp(0, 0);
        Check.same("another one", 0, x.putUp(0, 1));
        Check.same("the same one", 1, x.putUp(0, 1));
        Check.same("another one", 1, x.putUp(0, 0));
    }

    // Promise 34: "NONE if there was none"
    static void p34_noneBefore() {
        Office x = office(2);
        x.putUp(1, 1);
        Check.same("none yet", NONE, x.putUp(0, 0));
        x.withdraw(0);
        Check.same("withdrawn", NONE, x.putUp(0, 0));
        x.drop(0, 0);
        x.request(0, 0);
        Check.same("withdrawn with its enrolment", NONE, x.putUp(0, 0));
    }

    // Promise 34: "Throws IndexOutOfBoundsException if there is no such student or course"
    static void p34_noSuchStudentOrCourse() {
        Office x = office(2);
        x.putUp(0, 0);
        Check.refusesUnknown(x, x::putUp);
    }

    // Promise 34: "Throws IllegalStateException if the student is not enrolled in the course"
    static void p34_onlyAPlaceOfOnesOwn() {
        Office x = office(4);
        x.request(0, 1);
        Check.badState(x, () -> x.putUp(0, 1));
        Check.badState(x, () -> x.putUp(0, 2));
        x.drop(1, 1);
        Check.same("an offer", 3, x.offerDays(0, 1));
        Check.badState(x, () -> x.putUp(0, 1));
        Check.badState(x, () -> x.putUp(1, 1));
        x.putUp(0, 0);
        Check.badState(x, () -> x.putUp(0, 2));
        x.pass(0, 2);
        Check.badState(x, () -> x.putUp(0, 2));
        wish(x, 0, 3);
        Check.badState(x, () -> x.putUp(0, 3));
    }

    // Promise 35: "Withdraws the place that a student has put up"
    static void p35_whatIsWithdrawnIsNotExchanged() {
        Office x = allUp(3);
        wish(x, 0, 1);
        wish(x, 1, 0);
        x.withdraw(1);
        Check.same("no place up", NONE, x.placeUp(1));
        Check.yes("still enrolled", x.isEnrolled(1, 1));
        Check.same("of another student", 2, x.placeUp(2));
        Check.same("points to itself", 0, x.pointsTo(0));
        Check.same("none", 0, x.runExchange());
    }

    // Promise 35: "Returns the number of the course"
    static void p35_returnsTheCourse() {
        Office x = allUp(16);
        for (int s = 15; s >= 0; s--) {
            Check.same("of student " + s, s, x.withdraw(s));
        }
    }

    // Promise 35: "NONE if there was none"
    static void p35_noneToWithdraw() {
        Office x = office(2);
        Check.same("none yet", NONE, x.withdraw(0));
        x.putUp(0, 0);
        Check.same("of another student", NONE, x.withdraw(1));
        x.withdraw(0);
        Check.same("withdrawn already", NONE, x.withdraw(0));
        x.putUp(0, 0);
        x.drop(0, 0);
        Check.same("with its enrolment", NONE, x.withdraw(0));
    }

    // Promise 35: "Throws IndexOutOfBoundsException if there is no such student"
    static void p35_noSuchStudent() {
        Office x = allUp(2);
        Check.refusesStudents(x, x::withdraw);
    }

    // Promise 36: "Returns the place that a student has put up"
    static void p36_staysThroughOtherCalls() {
        Office x = office(3);
        x.putUp(2, 2);
        x.setSeats(2, 2);
        x.advance(7);
        x.runLottery(1);
        x.runExchange();
        x.request(2, 0);
        x.pass(2, 1);
        Check.same("up", 2, x.placeUp(2));
    }

    // Promise 36: "Returns the number of the course"
    static void p36_returnsTheCourse() {
        Office x = allUp(16);
        for (int s = 0; s < 16; s++) {
            Check.same("of student " + s, s, x.placeUp(s));
        }
    }

    // Promise 36: "NONE if there is none"
    static void p36_noneUp() {
        Office x = office(2);
        Check.same("none yet", NONE, x.placeUp(0));
        x.putUp(0, 0);
        Check.same("of another student", NONE, x.placeUp(1));
        x.withdraw(0);
        Check.same("withdrawn", NONE, x.placeUp(0));
        x.putUp(0, 0);
        x.drop(0, 0);
        Check.same("with its enrolment", NONE, x.placeUp(0));
        x.request(0, 0);
        Check.same("not up again", NONE, x.placeUp(0));
    }

    // Promise 36: "Throws IndexOutOfBoundsException if there is no such student"
    static void p36_noSuchStudent() {
        Office x = allUp(2);
        Check.refusesStudents(x, x::placeUp);
    }

    // Promise 37: "Returns to whom a student would point at the beginning of an exchange that was
    // run now"
    static void p37_theFirstWishThatIsUp() {
        Office x = office(5);
        wish(x, 0, 3, 2, 1);
        x.putUp(0, 0);
        Check.same("nobody has one up", 0, x.pointsTo(0));
        x.putUp(1, 1);
        Check.same("the third wish", 1, x.pointsTo(0));
        x.putUp(2, 2);
        Check.same("the second wish", 2, x.pointsTo(0));
        x.putUp(3, 3);
        Check.same("the first wish", 3, x.pointsTo(0));
        x.putUp(4, 4);
        Check.same("no wish", 3, x.pointsTo(0));
    }

    // Promise 37: "Returns to whom a student would point at the beginning of an exchange that was
    // run now"
    static void p37_asIfNobodyWasDone() {
        Office x = allUp(3);
        wish(x, 0, 1);
        wish(x, 1, 0);
        wish(x, 2, 1, 0);
        Check.same("1, who will be done with 0", 1, x.pointsTo(2));
        Check.same("nothing has changed", 1, x.pointsTo(0));
        Check.yes("nothing has changed", x.isEnrolled(0, 0));
    }

    // Promise 37: "Returns the number of a student"
    static void p37_ofSeveralTheLowestNumber() {
        Office x = Office.with(2, 3, 4);
        for (int s = 0; s < 4; s++) {
            x.request(s, s == 3 ? 1 : 0);
        }
        x.wish(3, 0);
        x.putUp(3, 1);
        x.putUp(2, 0);
        Check.same("the only one", 2, x.pointsTo(3));
        x.putUp(1, 0);
        Check.same("the lowest", 1, x.pointsTo(3));
        x.putUp(0, 0);
        Check.same("the lowest, 0", 0, x.pointsTo(3));
        x.withdraw(0);
        Check.same("the lowest left", 1, x.pointsTo(3));
    }

    // Promise 37: "Returns the number of a student"
    static void p37_enrolledIsNotUp() {
        Office x = office(3);
        x.request(0, 1);
        x.drop(1, 1);
        x.accept(0, 1);
        x.putUp(0, 0);
        wish(x, 2, 1);
        x.putUp(2, 2);
        Check.same("1 is taken, but not up", 2, x.pointsTo(2));
        x.putUp(0, 1);
        Check.same("now it is", 0, x.pointsTo(2));
    }

    // Promise 37: "that of the student itself if the student would point to itself"
    static void p37_toOneself() {
        Office x = allUp(16);
        for (int s = 0; s < 16; s++) {
            Check.same("without wishes", s, x.pointsTo(s));
        }
        x.withdraw(7);
        wish(x, 8, 7);
        Check.same("the wish is not up", 8, x.pointsTo(8));
        wish(x, 9, 8);
        x.addPrerequisite(8, 0);
        Check.same("the wish is not acceptable", 9, x.pointsTo(9));
    }

    // Promise 37: "Throws IndexOutOfBoundsException if there is no such student"
    static void p37_noSuchStudent() {
        Office x = allUp(2);
        Check.refusesStudents(x, x::pointsTo);
    }

    // Promise 37: "Throws IllegalStateException if the student has put up no place"
    static void p37_onlyForThoseWithAPlaceUp() {
        Office x = office(3);
        Check.badState(x, () -> x.pointsTo(0));
        x.putUp(0, 0);
        x.putUp(1, 1);
        Check.badState(x, () -> x.pointsTo(2));
        x.withdraw(0);
        Check.badState(x, () -> x.pointsTo(0));
        x.drop(1, 1);
        Check.badState(x, () -> x.pointsTo(1));
    }

    // Promise 38: "Runs an exchange by top trading cycles"
    static void p38_aCircleOfTwo() {
        Office x = allUp(5);
        wish(x, 0, 1, 4);
        wish(x, 1, 3, 0);
        x.withdraw(3);
        x.runExchange();
        samePlaces(x, 1, 0, 2, 3, 4);
        Check.same("the other wish", 4, x.wishAt(0, 0));
        Check.same("wishes", 1, x.wishes(0));
        Check.same("the other wish", 3, x.wishAt(1, 0));
        Check.same("places", 1, x.enrolled(0));
        Check.same("free", 0, x.freeSeats(0));
        Check.same("credits", 2, x.credits(0));
    }

    // Promise 38: "Runs an exchange by top trading cycles"
    static void p38_leavesTheWaitingListAndEndsTheOffer() {
        Office x = allUp(5);
        x.setSeats(1, 2);
        x.request(4, 1);
        x.request(0, 1);
        x.request(2, 1);
        x.drop(4, 1);
        Check.same("an offer", 3, x.offerDays(0, 1));
        wish(x, 0, 1);
        wish(x, 1, 0);
        Check.same("two", 2, x.runExchange());
        Check.same("no offer any more", 0, x.offerDays(0, 1));
        Check.same("the next has it", 3, x.offerDays(2, 1));
        Check.same("waiting", 1, x.waiting(1));
        Check.same("enrolled", 1, x.enrolled(1));
    }

    // Promise 38: "Runs an exchange by top trading cycles"
    static void p38_offersWhereTheObstacleEnds() {
        Office x = allUp(5);
        x.addCourse(0, 1, 1);
        x.request(1, 5);
        wish(x, 0, 1);
        wish(x, 1, 0);
        x.runExchange();
        x.setSeats(5, 1);
        Check.same("1 has 0 now, which clashes", 0, x.offerDays(1, 5));
        wish(x, 0, 0);
        wish(x, 1, 1);
        x.putUp(0, 1);
        x.putUp(1, 0);
        Check.same("back again", 2, x.runExchange());
        Check.same("no clash any more", 3, x.offerDays(1, 5));
    }

    // Promise 38: "The participants are the students who have put up a place"
    static void p38_nobodyElseTakesPart() {
        Office x = office(3);
        wish(x, 0, 1);
        wish(x, 1, 0);
        wish(x, 2, 0, 1);
        Check.same("nobody", 0, x.runExchange());
        x.putUp(0, 0);
        Check.same("one alone", 0, x.runExchange());
        x.putUp(1, 1);
        Check.same("two", 2, x.runExchange());
        samePlaces(x, 1, 0, 2);
        Check.same("not the third", 2, x.wishes(2));
    }

    // Promise 38: "The participants are the students who have put up a place"
    static void p38_inAnEmptyOffice() {
        Check.same("nobody at all", 0, new Office().runExchange());
        Check.same("nobody enrolled", 0, Office.with(20, 1, 16).runExchange());
    }

    // Promise 38: "A course is acceptable for a participant if it is among the participant's
    // wishes, .."
    static void p38_onlyWishesAreAcceptable() {
        Office x = allUp(3);
        wish(x, 0, 1);
        Check.same("1 wishes nothing", 0, x.runExchange());
        wish(x, 1, 2);
        Check.same("2 wishes nothing", 0, x.runExchange());
        wish(x, 2, 0);
        Check.same("all", 3, x.runExchange());
    }

    // Promise 38: "A course is acceptable for a participant if .. there would be no obstacle if
    // the participant was not enrolled in the course that the participant has put up"
    static void p38_acceptableWithoutThePlacePutUp() {
        Office x = new Office();
        x.addCourse(1, 6, 1);
        x.addCourse(1, 7, 1 | 2);
        x.addCourse(1, 3, 4);
        x.addStudent(0, 10);
        x.addStudent(0, 10);
        x.request(0, 0);
        x.request(0, 2);
        x.request(1, 1);
        wish(x, 0, 1);
        wish(x, 1, 0);
        x.putUp(1, 1);
        x.putUp(0, 2);
        Check.same("without the place in 2 it still clashes", 0, x.runExchange());
        x.putUp(0, 0);
        Check.same("up to the limit", 2, x.runExchange());
        Check.same("credits", 10, x.credits(0));
        Check.same("credits", 6, x.credits(1));
    }

    // Promise 38: "A course is acceptable for a participant if .. there would be no obstacle .."
    static void p38_eachObstacleIsPassedOver() {
        Office x = new Office();
        x.addCourse(1, 4, 1);
        x.addCourse(1, 5, 2);
        x.addCourse(1, 4, 4 | 8);
        x.addCourse(1, 4, 1 | 16);
        x.addCourse(1, 4, 8);
        x.addCourse(1, 1, 0);
        for (int s = 0; s < 6; s++) {
            x.addStudent(0, s == 0 ? 8 : 40);
            x.request(s, s);
            x.putUp(s, s);
        }
        x.drop(4, 4);
        x.request(0, 4);
        wish(x, 0, 1, 2, 5, 3);
        wish(x, 1, 0);
        wish(x, 2, 0);
        wish(x, 5, 0);
        wish(x, 3, 0);
        x.addPrerequisite(5, 4);
        Check.same("credits, a clash, a prerequisite", 3, x.pointsTo(0));
        Check.same("two", 2, x.runExchange());
        Check.yes("the only acceptable one", x.isEnrolled(0, 3));
        Check.yes("in exchange", x.isEnrolled(3, 0));
    }

    // Promise 38: "A course is acceptable for a participant if .. there would be no obstacle .."
    static void p38_thePlacePutUpIsNoPrerequisite() {
        Office x = allUp(2);
        wish(x, 0, 1);
        wish(x, 1, 0);
        x.addPrerequisite(1, 0);
        Check.same("none", 0, x.runExchange());
        Check.same("points to itself", 0, x.pointsTo(0));
    }

    // Promise 38: "this is determined before anything changes"
    static void p38_determinedBeforeAnythingChanges() {
        Office x = allUp(4);
        x.addCourse(1, 2, 0b0010);
        wish(x, 0, 1);
        wish(x, 1, 2);
        wish(x, 2, 0);
        x.change(3, 3, 4);
        x.putUp(3, 4);
        wish(x, 3, 1);
        Check.same("three at once", 3, x.runExchange());
        Check.yes("0 has 1", x.isEnrolled(0, 1));
        Check.yes("1 has 2", x.isEnrolled(1, 2));
        Check.yes("2 has 0", x.isEnrolled(2, 0));
        Check.yes("3 keeps 4", x.isEnrolled(3, 4));
    }

    // Promise 38: "As long as there are participants who are not done, each of them points to one
    // of them: .."
    static void p38_laterRoundsPointAnew() {
        Office x = allUp(5);
        wish(x, 0, 1);
        wish(x, 1, 0);
        wish(x, 2, 0, 3);
        wish(x, 3, 1, 0, 2);
        wish(x, 4, 2, 0, 3, 1);
        Check.same("at first", 0, x.pointsTo(2));
        Check.same("at first", 1, x.pointsTo(3));
        Check.same("two circles", 4, x.runExchange());
        samePlaces(x, 1, 0, 3, 2, 4);
        Check.same("the first wish of 2 stays", 0, x.wishAt(2, 0));
        Check.same("both others of 3 stay", 2, x.wishes(3));
    }

    // Promise 38: "As long as there are participants who are not done, .."
    static void p38_aRoundForEachOf16() {
        Office x = allUp(16);
        for (int s = 1; s < 16; s++) {
            x.wish(s, s - 1);
        }
        Check.same("each is done after the one before it", 0, x.runExchange());
        Check.same("all stay up", 15, x.placeUp(15));
        Check.same("at the beginning", 14, x.pointsTo(15));
        x.wish(0, 15);
        Check.same("all at once", 16, x.runExchange());
    }

    // Promise 38: "As long as there are participants who are not done, .."
    static void p38_8RoundsOfTwo() {
        Office x = allUp(16);
        for (int s = 0; s < 16; s += 2) {
            if (s > 0) {
                wish(x, s, s - 2);
                wish(x, s + 1, s - 1);
            }
            wish(x, s, s + 1);
            wish(x, s + 1, s);
        }
        Check.same("all, two by two", 16, x.runExchange());
        samePlaces(x, 1, 0, 3, 2, 5, 4, 7, 6, 9, 8, 11, 10, 13, 12, 15, 14);
    }

    // Promise 38: "As long as .. to whom has put up the first course, in the order of the wishes
    // of the pointing student, that is acceptable and was put up by another participant who is
    // not done"
    static void p38_theFirstOfTheWishes() {
        Office x = allUp(4);
        wish(x, 0, 3, 1, 2);
        for (int s = 1; s < 4; s++) {
            wish(x, s, 0);
        }
        Check.same("two", 2, x.runExchange());
        samePlaces(x, 3, 1, 2, 0);
    }

    // Promise 38: "if several of these have put it up, to the one with the lowest number"
    static void p38_theLowestNumberThatIsNotDone() {
        Office x = Office.with(2, 4, 6);
        for (int s = 0; s < 6; s++) {
            x.request(s, s < 3 ? 0 : 1);
            x.putUp(s, s < 3 ? 0 : 1);
        }
        x.wish(1, 1);
        x.wish(2, 1);
        x.wish(4, 0);
        x.wish(5, 0);
        Check.same("the lowest of course 1", 3, x.pointsTo(1));
        Check.same("the lowest of course 0", 0, x.pointsTo(5));
        Check.same("1 with 4, 2 with 5", 4, x.runExchange());
        Check.yes("1 has 1", x.isEnrolled(1, 1));
        Check.yes("2 has 1", x.isEnrolled(2, 1));
        Check.yes("4 has 0", x.isEnrolled(4, 0));
        Check.yes("5 has 0", x.isEnrolled(5, 0));
        Check.same("0 keeps its place up", 0, x.placeUp(0));
        Check.same("3 keeps its place up", 1, x.placeUp(3));
    }

    // Promise 38: "if several of these have put it up, to the one with the lowest number"
    static void p38_theLowestNumberGetsThePlace() {
        Office x = Office.with(2, 15, 16);
        for (int s = 0; s < 16; s++) {
            x.request(s, s == 7 ? 1 : 0);
            x.putUp(s, s == 7 ? 1 : 0);
            x.wish(s, s == 7 ? 0 : 1);
        }
        x.dropWish(0, 1);
        Check.same("0 keeps its place, then 1", 2, x.runExchange());
        Check.yes("1 has 1", x.isEnrolled(1, 1));
        Check.same("nobody else", 1, x.enrolled(1));
        Check.yes("7 has 0", x.isEnrolled(7, 0));
    }

    // Promise 38: "If there is no such course, the student points to itself"
    static void p38_whoPointsToItselfIsDone() {
        Office x = allUp(5);
        wish(x, 0, 1, 2);
        wish(x, 2, 0);
        Check.same("0 points to 1", 1, x.pointsTo(0));
        Check.same("1 keeps its place, then 0 and 2", 2, x.runExchange());
        samePlaces(x, 2, 1, 0, 3, 4);
        Check.same("stays up", 1, x.placeUp(1));
        Check.same("the wish for it stays", 1, x.wishAt(0, 0));
    }

    // Promise 38: "If there is no such course, the student points to itself"
    static void p38_whoseWishesAreAllTakenKeepsThePlace() {
        Office x = allUp(3);
        wish(x, 0, 1);
        wish(x, 1, 0);
        wish(x, 2, 0, 1);
        Check.same("the other two", 2, x.runExchange());
        samePlaces(x, 1, 0, 2);
        Check.same("still up", 2, x.placeUp(2));
    }

    // Promise 38: "Each student on a circle of such pointers (a student that points to itself is
    // a circle, too) gets the place that was put up by the student pointed to, and is done"
    static void p38_all16OnOneCircle() {
        Office x = allUp(16);
        for (int s = 0; s < 16; s++) {
            x.wish(s, (s + 5) % 16);
        }
        Check.same("all", 16, x.runExchange());
        samePlaces(x, 5, 6, 7, 8, 9, 10, 11, 12, 13, 14, 15, 0, 1, 2, 3, 4);
    }

    // Promise 38: "Each student on a circle of such pointers .. gets the place that was put up by
    // the student pointed to, and is done"
    static void p38_whoPointsIntoACircleIsNotOnIt() {
        Office x = allUp(5);
        wish(x, 0, 2);
        wish(x, 2, 4);
        wish(x, 4, 1);
        wish(x, 1, 0);
        wish(x, 3, 0, 1, 2, 4);
        Check.same("four", 4, x.runExchange());
        samePlaces(x, 2, 0, 4, 3, 1);
        Check.same("its wishes stay", 4, x.wishes(3));
        Check.same("nothing more", 0, x.runExchange());
    }

    // Promise 38: "Each student on a circle of such pointers .. gets the place .. and is done"
    static void p38_twoCirclesAtOnce() {
        Office x = allUp(5);
        wish(x, 0, 3);
        wish(x, 3, 0);
        wish(x, 1, 4);
        wish(x, 4, 1);
        Check.same("four", 4, x.runExchange());
        samePlaces(x, 3, 4, 2, 0, 1);
    }

    // Promise 38: "In the end all students who got the place of another student are enrolled in
    // its course in place of the one that they had put up"
    static void p38_enrolledInPlaceOfTheOnePutUp() {
        Office x = office(3);
        x.setSeats(2, 3);
        x.request(0, 2);
        x.putUp(0, 0);
        x.putUp(1, 1);
        wish(x, 0, 1);
        wish(x, 1, 0);
        x.runExchange();
        Check.yes("enrolled", x.isEnrolled(0, 1));
        Check.no("no more in the one put up", x.isEnrolled(0, 0));
        Check.yes("in the one beside it still", x.isEnrolled(0, 2));
        Check.same("credits", 4, x.credits(0));
        Check.same("the wish is gone", 0, x.wishes(0));
        Check.same("the place up is withdrawn", NONE, x.placeUp(0));
        Check.same("that of the other, too", NONE, x.placeUp(1));
    }

    // Promise 38: "In the end all students who got the place of another student are enrolled in
    // its course .."
    static void p38_whereAllSeatsAreTaken() {
        Office x = Office.with(2, 8, 16);
        for (int s = 0; s < 16; s++) {
            x.request(s, s % 2);
            x.putUp(s, s % 2);
            x.wish(s, 1 - s % 2);
        }
        Check.same("no free seat", 0, x.freeSeats(0) + x.freeSeats(1));
        Check.same("all", 16, x.runExchange());
        for (int s = 0; s < 16; s++) {
            Check.yes("in the other course", x.isEnrolled(s, 1 - s % 2));
        }
        Check.same("as many as before", 8, x.enrolled(0));
        Check.same("as many as before", 8, x.enrolled(1));
    }

    // Promise 38: "The students who got their own place keep it, and it stays put up"
    static void p38_whoGotTheOwnPlaceKeepsItUp() {
        Office x = allUp(16);
        wish(x, 3, 4);
        wish(x, 5, 6, 4);
        Check.same("nobody moves", 0, x.runExchange());
        for (int s = 0; s < 16; s++) {
            Check.yes("kept", x.isEnrolled(s, s));
            Check.same("still up", s, x.placeUp(s));
        }
        Check.same("wishes", 2, x.wishes(5));
    }

    // Promise 38: "Returns how many students got the place of another student"
    static void p38_returnsFrom0To16() {
        for (int movers = 2; movers <= 16; movers++) {
            Office x = allUp(16);
            for (int s = 0; s < movers; s++) {
                x.wish(s, (s + 1) % movers);
            }
            Check.same("those on the circle", movers, x.runExchange());
            Check.same("nobody any more", 0, x.runExchange());
        }
    }
}
