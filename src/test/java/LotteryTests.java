import java.math.BigInteger;

/** Promises 32 and 33: lottery rounds. */
final class LotteryTests {
    private static final int NONE = CourseEnrolment.NONE;
    private static final int HIGH = Integer.MAX_VALUE;
    /** Seeds with which two of three students get the same number. */
    private static final int SAME_0_AND_1 = 1390;
    private static final int SAME_1_AND_2 = 42964;
    /** A seed with which student 0 gets the lowest number and student 1 the highest. */
    private static final int LOWEST_THEN_HIGHEST = 1819065351;
    /** Seeds with which student 0 gets the number 0 and student 1 the number 1. */
    private static final int ZERO_THEN_ONE = 494221374;
    /** Seeds whose next x is 65535, 65536, 2147418111, 2147418112 and 2147483647. */
    private static final int X_65535 = 2032319262;
    private static final int X_65536 = 1742513795;
    private static final int X_2147418111 = 576240414;
    private static final int X_2147418112 = 286434947;
    private static final int X_2147483647 = 230538014;

    private LotteryTests() {
    }

    /** As many courses of one seat, one credit, no hours as students of these bands. */
    private static Office office(int... bands) {
        Office x = new Office();
        for (int band : bands) {
            x.addCourse(1, 1, 0);
            x.addStudent(band, 10);
        }
        return x;
    }

    /** All students wish these courses. */
    private static Office wishing(Office x, int students, int... courses) {
        for (int s = 0; s < students; s++) {
            for (int c : courses) {
                x.wish(s, c);
            }
        }
        return x;
    }

    private static void sameNumbers(Office x, int seed, int... due) {
        x.runLottery(seed);
        for (int s = 0; s < due.length; s++) {
            Check.same("number of student " + s, due[s], x.lotteryNumber(s));
        }
    }

    // Promise 32: "Runs a lottery round"
    static void p32_eachRoundGoesOn() {
        Office x = wishing(office(0, 0), 1, 1, 0);
        Check.same("the first wish", 1, x.runLottery(5));
        Check.yes("enrolled", x.isEnrolled(0, 1));
        Check.same("the next one", 1, x.runLottery(5));
        Check.yes("enrolled", x.isEnrolled(0, 0));
        Check.same("no wish is left", 0, x.runLottery(5));
        Check.same("no day passes", 0, x.day());
    }

    // Promise 32: "First a number x begins as the seed"
    static void p32_beginsAsTheSeed() {
        Office x = office(0, 1, 2);
        sameNumbers(x, 7, 19564, 9806, 10868);
        sameNumbers(x, 0, 0, 21468, 9988);
        sameNumbers(x, HIGH, 15929, 4409, 9862);
        sameNumbers(x, 7, 19564, 9806, 10868);
    }

    // Promise 32: "for each student, in the order of their numbers, x becomes .."
    static void p32_numbersInTheOrderOfTheStudents() {
        Office x = office(3, 2, 1, 0);
        sameNumbers(x, 7, 19564, 9806, 10868, 22674);
        x.addStudent(0, 1);
        sameNumbers(x, 7, 19564, 9806, 10868, 22674, 32531);
    }

    // Promise 32: "for each student, .. x becomes (1103515245 * x + 12345) modulo 2147483648,
    // calculated without overflow, .."
    static void p32_calculatedWithoutOverflow() {
        Office x = Office.with(0, 0, 16);
        for (int seed : new int[] {0, 1, 2, 65536, 1 << 30, HIGH - 1, HIGH}) {
            x.runLottery(seed);
            BigInteger number = BigInteger.valueOf(seed);
            for (int s = 0; s < 16; s++) {
                number = number.multiply(BigInteger.valueOf(1103515245L))
                        .add(BigInteger.valueOf(12345)).mod(BigInteger.ONE.shiftLeft(31));
                Check.same("number", number.shiftRight(16).longValue(), x.lotteryNumber(s));
            }
        }
    }

    // Promise 32: "for each student, .. the lottery number of the student becomes x / 65536,
    // rounded down"
    static void p32_roundedDown() {
        Office x = office(0);
        sameNumbers(x, X_65535, 0);
        sameNumbers(x, X_65536, 1);
        sameNumbers(x, X_2147418111, 32766);
        sameNumbers(x, X_2147418112, 32767);
        sameNumbers(x, X_2147483647, 32767);
    }

    // Promise 32: "Then the students have their turns: lower bands first, .."
    static void p32_lowerBandsGoFirst() {
        Office x = wishing(office(3, 2, 0, 1), 4, 3, 2, 1, 0);
        Check.same("all", 4, x.runLottery(7));
        Check.yes("band 0", x.isEnrolled(2, 3));
        Check.yes("band 1", x.isEnrolled(3, 2));
        Check.yes("band 2", x.isEnrolled(1, 1));
        Check.yes("band 3", x.isEnrolled(0, 0));
    }

    // Promise 32: "Then the students have their turns: lower bands first, .."
    static void p32_theHighestNumberOfABandBeforeTheLowestOfTheNext() {
        for (int band = 0; band < 3; band++) {
            Office x = wishing(office(band + 1, band), 2, 0);
            sameNumbers(x, LOWEST_THEN_HIGHEST, 0, 32767);
            Check.yes("the lower band", x.isEnrolled(1, 0));
        }
    }

    // Promise 32: "Then the students have their turns: .. within a band lower lottery numbers
    // first, .."
    static void p32_lowerNumbersGoFirst() {
        for (int band = 0; band <= 3; band++) {
            Office x = wishing(office(band, band, band), 3, 0);
            Check.same("one seat", 1, x.runLottery(7));
            Check.yes("9806 before 10868 and 19564", x.isEnrolled(1, 0));
            Office y = wishing(office(band, band), 2, 0);
            y.runLottery(ZERO_THEN_ONE);
            Check.yes("0 before 1", y.isEnrolled(0, 0));
        }
    }

    // Promise 32: "Then the students have their turns: .. within a band lower lottery numbers
    // first, .."
    static void p32_all16InTheOrderOfTheirNumbers() {
        Office x = Office.with(1, 0, 16);
        for (int s = 0; s < 16; s++) {
            x.wish(s, 0);
        }
        boolean[] done = new boolean[16];
        for (int turn = 1; turn <= 16; turn++) {
            x.setSeats(0, turn);
            Check.same("one seat more", 1, x.runLottery(7));
            int next = -1;
            for (int s = 0; s < 16; s++) {
                boolean first = next < 0 || x.lotteryNumber(s) < x.lotteryNumber(next);
                next = !done[s] && first ? s : next;
            }
            Check.yes("the lowest number that is left", x.isEnrolled(next, 0));
            done[next] = true;
        }
    }

    // Promise 32: "Then the students have their turns: .. with equal lottery numbers lower
    // student numbers first"
    static void p32_equalNumbersLowerStudentsFirst() {
        Office x = wishing(office(2, 2, 2), 3, 0);
        x.runLottery(SAME_0_AND_1);
        Check.same("the same number", x.lotteryNumber(0), x.lotteryNumber(1));
        Check.yes("student 0", x.isEnrolled(0, 0));
        Office y = wishing(office(2, 2, 2), 3, 0);
        y.runLottery(SAME_1_AND_2);
        Check.same("the same number", y.lotteryNumber(1), y.lotteryNumber(2));
        Check.yes("student 1", y.isEnrolled(1, 0));
    }

    // Promise 32: "In a student's turn the wishes are tried in their order, .."
    static void p32_wishesInTheirOrder() {
        Office x = office(0, 0, 0, 0, 0, 0, 0);
        for (int c : new int[] {4, 2, 6, 1, 3, 5}) {
            x.wish(0, c);
        }
        for (int c : new int[] {4, 2, 6, 1, 3, 5}) {
            Check.same("one", 1, x.runLottery(5));
            Check.yes("the first that is left", x.isEnrolled(0, c));
        }
        Check.same("no wish is left", 0, x.wishes(0));
    }

    // Promise 32: "In a student's turn .. the student is enrolled in the first course for which
    // there is no obstacle .."
    static void p32_wishesWithObstaclesArePassedOver() {
        Office x = new Office();
        x.addCourse(1, 1, 1);
        x.addCourse(1, 10, 0);
        x.addCourse(1, 1, 1);
        x.addCourse(1, 1, 0);
        x.addCourse(1, 9, 0);
        x.addStudent(0, 10);
        x.addPrerequisite(3, 0);
        x.request(0, 0);
        for (int c = 1; c <= 4; c++) {
            x.wish(0, c);
        }
        Check.same("credits", CourseEnrolment.CREDITS, x.obstacle(0, 1));
        Check.same("a clash", CourseEnrolment.CLASH, x.obstacle(0, 2));
        Check.same("a prerequisite", CourseEnrolment.PREREQUISITE, x.obstacle(0, 3));
        Check.same("one", 1, x.runLottery(1));
        Check.yes("the only one without an obstacle", x.isEnrolled(0, 4));
        Check.same("the others stay", 3, x.wishes(0));
        Check.same("nothing more", 0, x.runLottery(1));
    }

    // Promise 32: "In a student's turn .. and which has a free seat at that moment .."
    static void p32_fullCoursesArePassedOver() {
        Office x = office(0, 1, 2);
        x.setSeats(2, 0);
        wishing(x, 3, 2, 1, 0);
        Check.same("two seats", 2, x.runLottery(7));
        Check.yes("the first turn takes the last seat of 1", x.isEnrolled(0, 1));
        Check.yes("the second that of 0", x.isEnrolled(1, 0));
        Check.same("the third nothing", 0, x.credits(2));
        Check.same("wishes", 3, x.wishes(2));
    }

    // Promise 32: "In a student's turn .. (a seat that is held for this student is not free)"
    static void p32_aSeatThatIsHeldIsNotFree() {
        Office x = office(0, 0);
        x.setSeats(0, 0);
        x.request(1, 0);
        x.setSeats(0, 1);
        x.wish(1, 0);
        x.wish(0, 0);
        Check.same("an offer", 3, x.offerDays(1, 0));
        Check.same("held, for this student, too", 0, x.runLottery(3));
        Check.same("the offer stays", 3, x.offerDays(1, 0));
        Check.same("the wish stays", 1, x.wishes(1));
        x.wish(1, 1);
        Check.same("the next wish", 1, x.runLottery(3));
        Check.yes("enrolled", x.isEnrolled(1, 1));
    }

    // Promise 32: "In a student's turn .. a free seat at that moment .."
    static void p32_aSeatNoLongerHeldIsFreeAtOnce() {
        Office x = office(1, 0, 2);
        x.setSeats(0, 0);
        x.request(1, 0);
        x.setSeats(0, 2);
        wishing(x, 3, 0);
        Check.same("one held, one free", 1, x.freeSeats(0));
        Check.same("two", 2, x.runLottery(3));
        Check.yes("the one with the offer takes the free seat", x.isEnrolled(1, 0));
        Check.yes("the next one that was held", x.isEnrolled(0, 0));
        Check.no("the third none", x.isEnrolled(2, 0));
        Check.same("off the list", 0, x.waiting(0));
    }

    // Promise 32: "so each student gets one course at most"
    static void p32_oneCourseAtMost() {
        Office x = wishing(office(0, 0, 0), 1, 0, 1, 2);
        Check.same("one", 1, x.runLottery(7));
        Check.same("credits", 1, x.credits(0));
        Check.same("wishes", 2, x.wishes(0));
        Office y = wishing(Office.with(6, 16, 16), 16, 0, 1, 2, 3, 4, 5);
        Check.same("each one", 16, y.runLottery(7));
        Check.same("all the first wish", 16, y.enrolled(0));
        Check.same("none the second", 0, y.enrolled(1));
    }

    // Promise 32: "No offers are made before the last turn is over"
    static void p32_turnsGoBeforeOffers() {
        Office x = office(0, 1, 2);
        x.setSeats(0, 0);
        x.request(0, 0);
        x.request(2, 0);
        x.setSeats(0, 1);
        x.addPrerequisite(0, 1);
        x.setSeats(0, 2);
        x.pass(0, 1);
        x.pass(1, 1);
        x.wish(0, 0);
        x.wish(1, 0);
        Check.same("both", 2, x.runLottery(11));
        Check.yes("the one with the offer", x.isEnrolled(0, 0));
        Check.yes("and the next, before any offer", x.isEnrolled(1, 0));
        Check.same("no offer", 0, x.offerDays(2, 0));
    }

    // Promise 32: "No offers are made before the last turn is over"
    static void p32_aSeatThatNobodyTakesStaysFreeForThoseWithoutObstacles() {
        Office x = office(0, 1, 2, 3);
        x.setSeats(0, 0);
        x.request(0, 0);
        x.request(3, 0);
        x.setSeats(0, 1);
        x.addPrerequisite(0, 3);
        x.pass(0, 3);
        x.setSeats(0, 2);
        x.wish(0, 0);
        Check.same("one", 1, x.runLottery(9));
        Check.same("free, for 3 has an obstacle", 1, x.freeSeats(0));
        x.pass(3, 3);
        Check.same("offered to 3", 3, x.offerDays(3, 0));
    }

    // Promise 32: "seed: 0 or more"
    static void p32_from0ToTheHighestSeed() {
        for (int seed : new int[] {0, 1, HIGH - 1, HIGH}) {
            Office x = wishing(office(0, 0), 2, 0, 1);
            Check.same("both", 2, x.runLottery(seed));
        }
    }

    // Promise 32: "Returns how many students were enrolled in a course"
    static void p32_returnsFrom0To16() {
        Check.same("no students", 0, new Office().runLottery(1));
        Check.same("no wishes", 0, Office.with(1, 16, 16).runLottery(1));
        for (int seats = 0; seats <= 16; seats++) {
            Office x = wishing(Office.with(1, seats, 16), 16, 0);
            Check.same("as many as seats", seats, x.runLottery(1));
            Check.same("enrolled", seats, x.enrolled(0));
        }
    }

    // Promise 32: "Throws IllegalArgumentException if seed is below 0"
    static void p32_seedsBelow0() {
        Office x = wishing(office(0, 0), 2, 0, 1);
        for (int seed : new int[] {-1, -7, Integer.MIN_VALUE + 1, Integer.MIN_VALUE}) {
            Check.badArgument(x, () -> x.runLottery(seed));
        }
        Check.same("no numbers", NONE, x.lotteryNumber(0));
        x.runLottery(7);
        Check.badArgument(x, () -> x.runLottery(-7));
        Check.same("those of before", 19564, x.lotteryNumber(0));
    }

    // Promise 33: "Returns the lottery number that a student got in the latest round"
    static void p33_ofTheLatestRound() {
        Office x = office(0, 1, 2, 3);
        x.runLottery(7);
        int[] ofSeed7 = {19564, 9806, 10868, 22674};
        for (int s = 0; s < 4; s++) {
            Check.same("seed 7", ofSeed7[s], x.lotteryNumber(s));
        }
        x.runLottery(0);
        int[] ofSeed0 = {0, 21468, 9988, 22117};
        for (int s = 0; s < 4; s++) {
            Check.same("seed 0", ofSeed0[s], x.lotteryNumber(s));
        }
        x.advance(7);
        x.runExchange();
        Check.same("the same afterwards", 9988, x.lotteryNumber(2));
    }

    // Promise 33: "Returns 0 to 32767"
    static void p33_from0To32767() {
        Office x = office(0, 0);
        x.runLottery(LOWEST_THEN_HIGHEST);
        Check.same("the lowest", 0, x.lotteryNumber(0));
        Check.same("the highest", 32767, x.lotteryNumber(1));
    }

    // Promise 33: "NONE if no round was run since the student was added"
    static void p33_noneWithoutARound() {
        Office x = office(0, 1);
        Check.same("no round yet", NONE, x.lotteryNumber(0));
        x.runLottery(7);
        x.addStudent(0, 1);
        Check.same("added after it", NONE, x.lotteryNumber(2));
        Check.same("added before it", 9806, x.lotteryNumber(1));
        x.runLottery(7);
        Check.same("added before the next", 10868, x.lotteryNumber(2));
    }

    // Promise 33: "Throws IndexOutOfBoundsException if there is no such student"
    static void p33_noSuchStudent() {
        Office x = office(0, 0);
        x.runLottery(1);
        Check.refusesStudents(x, x::lotteryNumber);
    }
}
