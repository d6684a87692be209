/** Promises 18 to 21: wishes. */
final class WishTests {
    private static final int LOW = Integer.MIN_VALUE;
    private static final int HIGH = Integer.MAX_VALUE;

    private WishTests() {
    }

    /** Eight courses of one seat, one credit, no hours; two students. */
    private static CourseEnrolment office() {
        CourseEnrolment x = new CourseEnrolment();
        for (int c = 0; c < 8; c++) {
            x.addCourse(1, 1, 0);
        }
        x.addStudent(0, 40);
        x.addStudent(0, 40);
        return x;
    }

    static void p18_returnsThePlaceAtTheEnd() {
        CourseEnrolment x = office();
        Check.same("first", 0, x.wish(0, 5));
        Check.same("second", 1, x.wish(0, 2));
        Check.same("third", 2, x.wish(0, 7));
        Check.same("of the other student", 0, x.wish(1, 2));
        Check.same("at 0", 5, x.wishAt(0, 0));
        Check.same("at 1", 2, x.wishAt(0, 1));
        Check.same("at 2", 7, x.wishAt(0, 2));
    }

    static void p18_otherObstaclesDoNotMatter() {
        CourseEnrolment x = new CourseEnrolment();
        x.addCourse(1, 1, 1);
        x.addCourse(1, 9, 0);
        x.addCourse(1, 1, 1);
        x.addCourse(0, 1, 0);
        x.addCourse(1, 1, 0);
        x.addStudent(0, 5);
        x.addPrerequisite(4, 3);
        x.request(0, 0);
        Check.same("credits", 0, x.wish(0, 1));
        Check.same("clash", 1, x.wish(0, 2));
        Check.same("no seats", 2, x.wish(0, 3));
        Check.same("prerequisite", 3, x.wish(0, 4));
    }

    static void p18_waitingMayBeWished() {
        CourseEnrolment x = office();
        x.setSeats(0, 0);
        x.request(0, 0);
        Check.same("waiting", 0, x.wish(0, 0));
        Check.same("still waiting", 1, x.waiting(0));
    }

    static void p18_notPassedEnrolledOrTwice() {
        CourseEnrolment x = office();
        x.pass(0, 0);
        x.request(0, 1);
        x.wish(0, 2);
        Check.badState(x, () -> x.wish(0, 0));
        Check.badState(x, () -> x.wish(0, 1));
        Check.badState(x, () -> x.wish(0, 2));
        x.drop(0, 1);
        Check.same("after the drop", 1, x.wish(0, 1));
    }

    static void p18_atMost6() {
        CourseEnrolment x = office();
        for (int c = 0; c < 6; c++) {
            Check.same("place", c, x.wish(0, c));
        }
        Check.badState(x, () -> x.wish(0, 6));
        Check.badState(x, () -> x.wish(0, 5));
        x.dropWish(0, 0);
        Check.same("again", 5, x.wish(0, 6));
        Check.badState(x, () -> x.wish(0, 7));
        Check.same("the other student", 0, x.wish(1, 7));
    }

    static void p18_wrongArguments() {
        CourseEnrolment x = office();
        for (int s : new int[] {-1, 2, 16, LOW, HIGH}) {
            Check.noSuch(x, () -> x.wish(s, 0));
            Check.noSuch(x, () -> x.wish(s, 8));
        }
        for (int c : new int[] {-1, 8, 20, LOW, HIGH}) {
            Check.noSuch(x, () -> x.wish(0, c));
        }
    }

    static void p19_returnsHowManyAreLeft() {
        CourseEnrolment x = office();
        x.wish(0, 4);
        x.wish(0, 3);
        x.wish(0, 6);
        x.wish(1, 3);
        Check.same("left", 2, x.dropWish(0, 3));
        Check.same("at 0", 4, x.wishAt(0, 0));
        Check.same("at 1", 6, x.wishAt(0, 1));
        Check.noSuch(x, () -> x.wishAt(0, 2));
        Check.same("left", 1, x.dropWish(0, 4));
        Check.same("left", 0, x.dropWish(0, 6));
        Check.same("of the other student", 1, x.wishes(1));
    }

    static void p19_onlyWhatIsWished() {
        CourseEnrolment x = office();
        Check.badState(x, () -> x.dropWish(0, 0));
        x.wish(0, 1);
        x.wish(1, 2);
        Check.badState(x, () -> x.dropWish(0, 2));
        x.dropWish(0, 1);
        Check.badState(x, () -> x.dropWish(0, 1));
    }

    static void p19_wrongArguments() {
        CourseEnrolment x = office();
        for (int s : new int[] {-1, 2, 16, LOW, HIGH}) {
            Check.noSuch(x, () -> x.dropWish(s, 0));
            Check.noSuch(x, () -> x.dropWish(s, 8));
        }
        for (int c : new int[] {-1, 8, 20, LOW, HIGH}) {
            Check.noSuch(x, () -> x.dropWish(0, c));
        }
    }

    static void p20_countsTheWishes() {
        CourseEnrolment x = office();
        for (int c = 0; c < 6; c++) {
            Check.same("wishes", c, x.wishes(0));
            x.wish(0, c);
        }
        Check.same("wishes", 6, x.wishes(0));
        Check.same("other student", 0, x.wishes(1));
        x.request(0, 3);
        Check.same("enrolled", 5, x.wishes(0));
        x.pass(0, 1);
        Check.same("passed", 4, x.wishes(0));
        for (int s : new int[] {-1, 2, 16, LOW, HIGH}) {
            Check.noSuch(x, () -> x.wishes(s));
        }
    }

    static void p21_theOtherWishesKeepTheirOrder() {
        CourseEnrolment x = office();
        int[] wished = {6, 1, 7, 0, 5, 2};
        for (int c : wished) {
            x.wish(0, c);
        }
        for (int place = 0; place < 6; place++) {
            Check.same("wish", wished[place], x.wishAt(0, place));
        }
        x.request(0, 7);
        x.request(0, 2);
        x.request(0, 6);
        Check.same("at 0", 1, x.wishAt(0, 0));
        Check.same("at 1", 0, x.wishAt(0, 1));
        Check.same("at 2", 5, x.wishAt(0, 2));
        Check.noSuch(x, () -> x.wishAt(0, 3));
    }

    static void p21_wrongArguments() {
        CourseEnrolment x = office();
        Check.noSuch(x, () -> x.wishAt(0, 0));
        x.wish(0, 4);
        for (int place : new int[] {-1, 1, 6, LOW, HIGH}) {
            Check.noSuch(x, () -> x.wishAt(0, place));
        }
        for (int s : new int[] {-1, 2, 16, LOW, HIGH}) {
            Check.noSuch(x, () -> x.wishAt(s, 0));
        }
        Check.noSuch(x, () -> x.wishAt(1, 0));
    }
}
