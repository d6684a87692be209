import java.math.BigInteger;

/** Promises 32 and 33: lottery rounds. */
final class LotteryTests {
    private static final int NONE = CourseEnrolment.NONE;
    /** Seeds with which two of three students get the same number. */
    private static final int SAME_0_AND_1 = 1390;
    private static final int SAME_1_AND_2 = 42964;

    private LotteryTests() {
    }

    /** As many courses of one seat, one credit, no hours as students of these bands. */
    private static CourseEnrolment office(int... bands) {
        CourseEnrolment x = new CourseEnrolment();
        for (int band : bands) {
            x.addCourse(1, 1, 0);
            x.addStudent(band, 10);
        }
        return x;
    }

    private static void wishAll(CourseEnrolment x, int... courses) {
        for (int s = 0; s < x.students(); s++) {
            for (int c : courses) {
                x.wish(s, c);
            }
        }
    }

    static void p32_lowerNumbersGoFirst() {
        CourseEnrolment x = office(1, 1, 1);
        wishAll(x, 0);
        Check.same("one seat", 1, x.runLottery(7));
        Check.yes("9806 before 10868 and 19564", x.isEnrolled(1, 0));
        Check.same("the wish is gone", 0, x.wishes(1));
        Check.same("the others wish on", 1, x.wishes(0));
    }

    static void p32_lowerBandsGoFirst() {
        CourseEnrolment x = office(3, 2, 0, 1);
        wishAll(x, 3, 2, 1, 0);
        Check.same("all", 4, x.runLottery(7));
        Check.yes("band 0", x.isEnrolled(2, 3));
        Check.yes("band 1", x.isEnrolled(3, 2));
        Check.yes("band 2", x.isEnrolled(1, 1));
        Check.yes("band 3", x.isEnrolled(0, 0));
    }

    static void p32_theBandWeighsMoreThanAnyNumber() {
        CourseEnrolment x = office(1, 0);
        wishAll(x, 0);
        x.runLottery(0);
        Check.same("the lowest number", 0, x.lotteryNumber(0));
        Check.same("a high number", 21468, x.lotteryNumber(1));
        Check.yes("the lower band", x.isEnrolled(1, 0));
    }

    static void p32_equalNumbersLowerStudentsFirst() {
        CourseEnrolment x = office(2, 2, 2);
        wishAll(x, 0);
        x.runLottery(SAME_0_AND_1);
        Check.same("the same number", x.lotteryNumber(0), x.lotteryNumber(1));
        Check.yes("student 0", x.isEnrolled(0, 0));
        CourseEnrolment y = office(2, 2, 2);
        wishAll(y, 0);
        y.runLottery(SAME_1_AND_2);
        Check.same("the same number", y.lotteryNumber(1), y.lotteryNumber(2));
        Check.yes("student 1", y.isEnrolled(1, 0));
    }

    static void p32_oneCourseEachInTheOrderOfWishes() {
        CourseEnrolment x = office(0, 0);
        x.wish(0, 1);
        x.wish(0, 0);
        Check.same("one", 1, x.runLottery(5));
        Check.yes("the first wish", x.isEnrolled(0, 1));
        Check.no("one at most", x.isEnrolled(0, 0));
        Check.same("wishes", 1, x.wishes(0));
        Check.same("the next round", 1, x.runLottery(5));
        Check.yes("the second wish", x.isEnrolled(0, 0));
        Check.same("no wishes", 0, x.runLottery(5));
    }

    static void p32_wishesWithObstaclesArePassedOver() {
        CourseEnrolment x = new CourseEnrolment();
        x.addCourse(1, 1, 1);
        x.addCourse(1, 10, 0);
        x.addCourse(1, 1, 1);
        x.addCourse(1, 1, 0);
        x.addCourse(0, 1, 0);
        x.addCourse(1, 1, 0);
        x.addStudent(0, 10);
        x.addPrerequisite(3, 0);
        x.request(0, 0);
        for (int c = 1; c <= 5; c++) {
            x.wish(0, c);
        }
        Check.same("one", 1, x.runLottery(1));
        Check.yes("the only one without an obstacle", x.isEnrolled(0, 5));
        Check.same("the others stay", 4, x.wishes(0));
        Check.same("nothing more", 0, x.runLottery(1));
    }

    static void p32_heldSeatsAreNotFree() {
        CourseEnrolment x = office(0, 0);
        x.setSeats(0, 0);
        x.request(1, 0);
        x.setSeats(0, 1);
        x.wish(1, 0);
        x.wish(0, 0);
        Check.same("an offer", 3, x.offerDays(1, 0));
        Check.same("held, for this student, too", 0, x.runLottery(3));
        Check.same("the offer stays", 3, x.offerDays(1, 0));
        Check.same("the wish stays", 1, x.wishes(1));
    }

    static void p32_aSeatNoLongerHeldIsFreeAtOnce() {
        CourseEnrolment x = office(1, 0, 2);
        x.setSeats(0, 0);
        x.request(1, 0);
        x.setSeats(0, 2);
        x.wish(0, 0);
        x.wish(1, 0);
        x.wish(2, 0);
        Check.same("one held, one free", 1, x.freeSeats(0));
        Check.same("two", 2, x.runLottery(3));
        Check.yes("the one with the offer takes the free seat", x.isEnrolled(1, 0));
        Check.yes("the next one that was held", x.isEnrolled(0, 0));
        Check.no("the third none", x.isEnrolled(2, 0));
        Check.same("off the list", 0, x.waiting(0));
    }

    static void p32_aSeatNoLongerHeldStaysFreeForThoseWithoutObstacles() {
        CourseEnrolment x = office(0, 1, 2, 3);
        x.setSeats(0, 0);
        x.request(0, 0);
        x.request(3, 0);
        x.setSeats(0, 1);
        x.addPrerequisite(0, 3);
        x.pass(0, 3);
        x.pass(1, 3);
        x.setSeats(0, 2);
        x.wish(0, 0);
        Check.same("one round for student 0", 1, x.runLottery(9));
        Check.same("free, for 3 has an obstacle", 1, x.freeSeats(0));
        x.pass(3, 3);
        Check.same("offered to 3", 3, x.offerDays(3, 0));
    }

    static void p32_turnsGoBeforeOffers() {
        CourseEnrolment x = office(0, 1, 2);
        x.setSeats(0, 0);
        x.request(0, 0);
        x.request(2, 0);
        x.setSeats(0, 1);
        x.addPrerequisite(0, 1);
        x.setSeats(0, 2);
        x.pass(0, 1);
        x.wish(0, 0);
        x.wish(1, 0);
        x.pass(1, 1);
        Check.same("both", 2, x.runLottery(11));
        Check.yes("the one with the offer", x.isEnrolled(0, 0));
        Check.yes("and the next, before any offer", x.isEnrolled(1, 0));
        Check.same("no offer", 0, x.offerDays(2, 0));
    }

    static void p32_whoWaitsMayWinAndLeavesTheList() {
        CourseEnrolment x = office(0, 0);
        x.setSeats(0, 0);
        x.request(0, 0);
        x.request(1, 0);
        x.addPrerequisite(0, 1);
        x.setSeats(0, 2);
        x.addCourse(1, 1, 0);
        x.wish(0, 2);
        x.wish(1, 1);
        Check.same("both", 2, x.runLottery(4));
        Check.same("still waiting for the other course", 2, x.waiting(0));
        x.drop(1, 1);
        x.pass(1, 1);
        Check.same("an offer", 3, x.offerDays(1, 0));
        x.wish(1, 0);
        Check.same("the free seat", 1, x.runLottery(4));
        Check.same("off the list", 1, x.waiting(0));
    }

    static void p32_withoutStudentsOrWishes() {
        CourseEnrolment x = new CourseEnrolment();
        Check.same("nobody", 0, x.runLottery(0));
        x.addStudent(0, 1);
        Check.same("no wishes", 0, x.runLottery(Integer.MAX_VALUE));
    }

    static void p32_seedsBelow0() {
        CourseEnrolment x = office(0, 0);
        wishAll(x, 0, 1);
        Check.badArgument(x, () -> x.runLottery(-1));
        Check.badArgument(x, () -> x.runLottery(Integer.MIN_VALUE));
        x.runLottery(7);
        Check.badArgument(x, () -> x.runLottery(-7));
    }

    static void p33_theNumbersOfTheLatestRound() {
        CourseEnrolment x = office(0, 1, 2, 3);
        Check.same("no round yet", NONE, x.lotteryNumber(0));
        x.runLottery(7);
        int[] ofSeed7 = {19564, 9806, 10868, 22674};
        for (int s = 0; s < 4; s++) {
            Check.same("seed 7", ofSeed7[s], x.lotteryNumber(s));
        }
        x.addStudent(0, 1);
        Check.same("added after it", NONE, x.lotteryNumber(4));
        x.runLottery(0);
        int[] ofSeed0 = {0, 21468, 9988, 22117, 3498};
        for (int s = 0; s < 5; s++) {
            Check.same("seed 0", ofSeed0[s], x.lotteryNumber(s));
        }
    }

    static void p33_calculatedWithoutOverflow() {
        CourseEnrolment x = new CourseEnrolment();
        for (int s = 0; s < 16; s++) {
            x.addStudent(0, 1);
        }
        for (int seed : new int[] {0, 1, 65536, 1 << 30, Integer.MAX_VALUE}) {
            x.runLottery(seed);
            BigInteger number = BigInteger.valueOf(seed);
            for (int s = 0; s < 16; s++) {
                number = number.multiply(BigInteger.valueOf(1103515245L))
                        .add(BigInteger.valueOf(12345)).mod(BigInteger.ONE.shiftLeft(31));
                Check.same("number", number.shiftRight(16).longValue(), x.lotteryNumber(s));
            }
        }
    }

    static void p33_wrongArguments() {
        CourseEnrolment x = office(0, 0);
        x.runLottery(1);
        for (int s : new int[] {-1, 2, 16, Integer.MIN_VALUE, Integer.MAX_VALUE}) {
            Check.noSuch(x, () -> x.lotteryNumber(s));
        }
    }
}
