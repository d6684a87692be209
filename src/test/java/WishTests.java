/** Promises 18 to 21: wishes. */
final class WishTests {
    private WishTests() {
    }

    /** Eight courses of one seat, one credit, no hours; two students. */
    private static Office office() {
        return Office.with(8, 1, 2);
    }

    private static Office wishing(int... courses) {
        Office x = office();
        for (int c : courses) {
            x.wish(0, c);
        }
        return x;
    }

    private static void sameWishes(Office x, int... due) {
        Check.same("wishes", due.length, x.wishes(0));
        for (int place = 0; place < due.length; place++) {
            Check.same("wish " + place, due[place], x.wishAt(0, place));
        }
    }

    // Promise 18: "Adds a course at the end of the wishes of a student"
    static void p18_addsAtTheEnd() {
        Office x = wishing(5, 2, 7);
        sameWishes(x, 5, 2, 7);
        x.dropWish(0, 5);
        x.wish(0, 5);
        sameWishes(x, 2, 7, 5);
        Check.same("of the other student", 0, x.wishes(1));
    }

    // Promise 18: "Obstacles other than PASSED and ENROLLED do not matter"
    static void p18_otherObstaclesDoNotMatter() {
        Office x = new Office();
        x.addCourse(1, 1, 1);
        x.addCourse(1, 9, 0);
        x.addCourse(1, 1, 1);
        x.addCourse(0, 1, 0);
        x.addCourse(1, 1, 0);
        x.addStudent(0, 5);
        x.addPrerequisite(4, 3);
        x.request(0, 0);
        Check.same("credits", 0, x.wish(0, 1));
        Check.same("clash", 1, x.wish(0, 2));
        Check.same("no seats", 2, x.wish(0, 3));
        Check.same("prerequisite", 3, x.wish(0, 4));
    }

    // Promise 18: "Obstacles other than PASSED and ENROLLED do not matter"
    static void p18_norDoesWaitingOrAnOffer() {
        Office x = office();
        x.setSeats(0, 0);
        x.setSeats(1, 0);
        x.request(0, 0);
        x.request(0, 1);
        x.setSeats(1, 1);
        Check.same("waiting", 0, x.wish(0, 0));
        Check.same("with an offer", 1, x.wish(0, 1));
        Check.same("still waiting", 1, x.waiting(0));
        Check.same("still an offer", 3, x.offerDays(0, 1));
    }

    // Promise 18: "Returns its place among the wishes, from 0"
    static void p18_places0To5() {
        Office x = office();
        for (int place = 0; place < 6; place++) {
            Check.same("place", place, x.wish(0, 7 - place));
            Check.same("there", 7 - place, x.wishAt(0, place));
        }
        Check.same("of the other student", 0, x.wish(1, 2));
        x.dropWish(0, 7);
        Check.same("after one less", 5, x.wish(0, 0));
    }

    // Promise 18: "Throws IndexOutOfBoundsException if there is no such student or course"
    static void p18_noSuchStudentOrCourse() {
        Office x = office();
        Check.refusesUnknown(x, x::wish);
    }

    // Promise 18: "Throws IllegalStateException if the student has passed the course, .."
    static void p18_notWhatIsPassed() {
        Office x = wishing(1);
        x.pass(0, 0);
        x.pass(0, 1);
        Check.badState(x, () -> x.wish(0, 0));
        Check.badState(x, () -> x.wish(0, 1));
        Check.same("the other student", 0, x.wish(1, 0));
    }

    // Promise 18: "Throws IllegalStateException if .. is enrolled in it, .."
    static void p18_notWhereEnrolled() {
        Office x = wishing(1);
        x.request(0, 1);
        Check.badState(x, () -> x.wish(0, 1));
        Check.same("the other student", 0, x.wish(1, 1));
        x.drop(0, 1);
        Check.same("after the drop", 0, x.wish(0, 1));
    }

    // Promise 18: "Throws IllegalStateException if .. wishes it already, .."
    static void p18_notTwice() {
        Office x = wishing(3, 0, 4, 2, 1);
        for (int c : new int[] {3, 0, 4, 2, 1}) {
            Check.badState(x, () -> x.wish(0, c));
        }
        Check.same("the other student", 0, x.wish(1, 3));
        x.dropWish(0, 4);
        Check.same("after it was dropped", 4, x.wish(0, 4));
    }

    // Promise 18: "Throws IllegalStateException if .. there are 6 wishes"
    static void p18_notASeventh() {
        Office x = wishing(0, 1, 2, 3, 4);
        Check.same("the sixth", 5, x.wish(0, 5));
        Check.badState(x, () -> x.wish(0, 6));
        Check.badState(x, () -> x.wish(0, 5));
        Check.same("the other student", 0, x.wish(1, 6));
        x.dropWish(0, 0);
        Check.same("with 5 left", 5, x.wish(0, 6));
        Check.badState(x, () -> x.wish(0, 7));
    }

    // Promise 19: "Takes a course out of the wishes of a student"
    static void p19_fromEachPlace() {
        for (int place = 0; place < 6; place++) {
            Office x = wishing(5, 4, 3, 2, 1, 0);
            x.wish(1, 5 - place);
            x.dropWish(0, 5 - place);
            Check.same("wishes", 5, x.wishes(0));
            for (int left = 0; left < 5; left++) {
                Check.same("left", left < place ? 5 - left : 4 - left, x.wishAt(0, left));
            }
            Check.same("of the other student", 1, x.wishes(1));
        }
    }

    // Promise 19: "Takes a course out of the wishes of a student"
    static void p19_keepsWaitingAndOffer() {
        Office x = wishing(0);
        x.setSeats(0, 0);
        x.request(0, 0);
        x.setSeats(0, 1);
        x.dropWish(0, 0);
        Check.same("waiting", 1, x.waiting(0));
        Check.same("an offer", 3, x.offerDays(0, 0));
    }

    // Promise 19: "Returns how many wishes are left"
    static void p19_5To0AreLeft() {
        Office x = wishing(5, 4, 3, 2, 1, 0);
        int due = 5;
        for (int c : new int[] {2, 0, 5, 4, 1, 3}) {
            Check.same("left", due, x.dropWish(0, c));
            due--;
        }
        sameWishes(x);
    }

    // Promise 19: "Throws IndexOutOfBoundsException if there is no such student or course"
    static void p19_noSuchStudentOrCourse() {
        Office x = wishing(0, 1);
        Check.refusesUnknown(x, x::dropWish);
    }

    // Promise 19: "Throws IllegalStateException if the course is not among the wishes"
    static void p19_onlyWhatIsWished() {
        Office x = office();
        Check.badState(x, () -> x.dropWish(0, 0));
        x.wish(0, 1);
        x.wish(1, 2);
        Check.badState(x, () -> x.dropWish(0, 2));
        Check.badState(x, () -> x.dropWish(0, 0));
        x.dropWish(0, 1);
        Check.badState(x, () -> x.dropWish(0, 1));
        x.wish(0, 1);
        x.request(0, 1);
        Check.badState(x, () -> x.dropWish(0, 1));
        x.wish(0, 3);
        x.pass(0, 3);
        Check.badState(x, () -> x.dropWish(0, 3));
    }

    // Promise 20: "Returns how many wishes a student has"
    static void p20_lessThoseTakenAndPassed() {
        Office x = wishing(0, 1, 2, 3, 4, 5);
        x.request(0, 3);
        Check.same("enrolled", 5, x.wishes(0));
        x.pass(0, 1);
        Check.same("passed", 4, x.wishes(0));
        x.dropWish(0, 0);
        Check.same("dropped", 3, x.wishes(0));
        Check.same("other student", 0, x.wishes(1));
    }

    // Promise 20: "Returns 0 to 6"
    static void p20_from0To6() {
        Office x = office();
        for (int c = 0; c < 6; c++) {
            Check.same("wishes", c, x.wishes(0));
            x.wish(0, c);
        }
        Check.same("wishes", 6, x.wishes(0));
        Check.badState(x, () -> x.wish(0, 6));
        Check.same("not a seventh", 6, x.wishes(0));
    }

    // Promise 20: "Throws IndexOutOfBoundsException if there is no such student"
    static void p20_noSuchStudent() {
        Office x = wishing(0, 1);
        Check.refusesStudents(x, x::wishes);
    }

    // Promise 21: "Returns a wish of a student"
    static void p21_ofThisStudent() {
        Office x = wishing(6, 1);
        x.wish(1, 3);
        Check.same("of the first", 6, x.wishAt(0, 0));
        Check.same("of the second", 3, x.wishAt(1, 0));
        Check.noSuch(x, () -> x.wishAt(1, 1));
    }

    // Promise 21: "place: 0 or more, less than wishes(student)"
    static void p21_eachPlaceUpToTheLast() {
        Office x = office();
        for (int count = 1; count <= 6; count++) {
            x.wish(0, 8 - count);
            for (int place = 0; place < count; place++) {
                Check.same("wish", 7 - place, x.wishAt(0, place));
            }
        }
    }

    // Promise 21: "Returns the number of the course"
    static void p21_theOthersKeepTheirOrder() {
        Office x = wishing(6, 1, 7, 0, 5, 2);
        sameWishes(x, 6, 1, 7, 0, 5, 2);
        x.request(0, 7);
        x.request(0, 2);
        x.request(0, 6);
        sameWishes(x, 1, 0, 5);
    }

    // Promise 21: "Throws IndexOutOfBoundsException if there is no such student, .."
    static void p21_noSuchStudent() {
        Office x = wishing(0);
        x.wish(1, 0);
        Check.refusesStudents(x, s -> x.wishAt(s, 0));
        Check.refusesStudents(x, s -> x.wishAt(s, -1));
    }

    // Promise 21: "Throws IndexOutOfBoundsException if .. no wish at this place"
    static void p21_noWishAtThisPlace() {
        Office x = office();
        Check.refusesNumbers(x, 0, place -> x.wishAt(0, place));
        for (int count = 1; count <= 6; count++) {
            x.wish(0, count);
            Check.refusesNumbers(x, count, place -> x.wishAt(0, place));
        }
        x.dropWish(0, 6);
        Check.noSuch(x, () -> x.wishAt(0, 5));
        Check.noSuch(x, () -> x.wishAt(1, 0));
    }
}
