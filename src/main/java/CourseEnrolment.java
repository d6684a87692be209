/**
 * The enrolment of a registrar's office for one term: courses with prerequisites, seats, credits
 * and hours; students with passed courses and wishes; lottery rounds by priority bands; waiting
 * lists with offers that expire; and exchanges of places by top trading cycles.
 */
public final class CourseEnrolment {
    public static final int NONE = -1;
    public static final int NO_OBSTACLE = 0;
    public static final int PASSED = 1;
    public static final int ENROLLED = 2;
    public static final int PREREQUISITE = 3;
    public static final int CREDITS = 4;
    public static final int CLASH = 5;

    private static final int MOST_COURSES = 20;
    private static final int MOST_STUDENTS = 16;
    private static final int MOST_WISHES = 6;
    private static final int MOST_SEATS = 16;
    private static final int MOST_COURSE_CREDITS = 12;
    private static final int ALL_HOURS = 1073741823;
    private static final int LAST_BAND = 3;
    private static final int HIGHEST_LIMIT = 40;
    private static final int DAYS_OF_AN_OFFER = 3;
    private static final int MOST_DAYS = 7;
    private static final long LOTTERY_FACTOR = 1103515245L;
    private static final long LOTTERY_STEP = 12345L;
    private static final long LOTTERY_MODULUS = 2147483648L;
    private static final long LOTTERY_DIVISOR = 65536L;
    private static final int LOTTERY_NUMBERS = 32768;

    // Sets of courses and of students are kept as ints: bit n stands for the number n.
    private final Course[] allCourses;
    private final Student[] allStudents;
    private int courseCount;
    private int studentCount;
    private int today;

    // The row in which a lottery round sorts its turns; made once, so that no round makes its own.
    private final int[] turns;

    public CourseEnrolment() {
        allCourses = new Course[MOST_COURSES];
        for (int c = 0; c < allCourses.length; c++) {
            allCourses[c] = new Course(c);
        }
        allStudents = new Student[MOST_STUDENTS];
        for (int s = 0; s < allStudents.length; s++) {
            allStudents[s] = new Student(s);
        }
        courseCount = 0;
        studentCount = 0;
        today = 0;
        turns = new int[MOST_STUDENTS];
    }

    // ---- courses

    public int addCourse(int seats, int credits, int hours)
            throws IllegalArgumentException, IllegalStateException {
        if (isOutside(seats, 0, MOST_SEATS) || isOutside(credits, 1, MOST_COURSE_CREDITS)
                || isOutside(hours, 0, ALL_HOURS)) {
            throw new IllegalArgumentException("seats, credits or hours out of range");
        }
        if (courseCount >= allCourses.length) {
            throw new IllegalStateException("no more courses");
        }
        Course added = allCourses[courseCount];
        added.seatCount = seats;
        added.creditPoints = credits;
        added.hourSet = hours;
        courseCount++;
        return added.number;
    }

    public int setSeats(int course, int seats)
            throws IndexOutOfBoundsException, IllegalArgumentException, IllegalStateException {
        Course changed = courseAt(course);
        if (isOutside(seats, 0, MOST_SEATS)) {
            throw new IllegalArgumentException("seats out of range");
        }
        if (seats < takenSeats(changed)) {
            throw new IllegalStateException("more places are taken or held");
        }
        int before = changed.seatCount;
        changed.seatCount = seats;
        makeOffers();
        return before;
    }

    public int addPrerequisite(int course, int required)
            throws IndexOutOfBoundsException, IllegalStateException {
        Course changed = courseAt(course);
        Course needed = courseAt(required);
        if (course == required || isIn(changed.directSet, required)
                || isIn(needed.requiredSet, course)) {
            throw new IllegalStateException("no new prerequisite without a circle");
        }
        changed.directSet |= bit(required);
        spreadRequired(changed, needed.requiredSet | bit(required));
        return Integer.bitCount(changed.requiredSet);
    }

    public boolean requires(int course, int other) throws IndexOutOfBoundsException {
        Course asked = courseAt(course);
        Course needed = courseAt(other);
        return isIn(asked.requiredSet, needed.number);
    }

    public int level(int course) throws IndexOutOfBoundsException {
        return levelOf(courseAt(course));
    }

    public int courses() {
        return courseCount;
    }

    public int enrolled(int course) throws IndexOutOfBoundsException {
        return enrolledIn(courseAt(course));
    }

    public int freeSeats(int course) throws IndexOutOfBoundsException {
        return freeIn(courseAt(course));
    }

    // ---- students

    public int addStudent(int band, int limit)
            throws IllegalArgumentException, IllegalStateException {
        if (isOutside(band, 0, LAST_BAND) || isOutside(limit, 1, HIGHEST_LIMIT)) {
            throw new IllegalArgumentException("band or limit out of range");
        }
        if (studentCount >= allStudents.length) {
            throw new IllegalStateException("no more students");
        }
        Student added = allStudents[studentCount];
        added.priorityBand = band;
        added.creditLimit = limit;
        studentCount++;
        return added.number;
    }

    public int pass(int student, int course)
            throws IndexOutOfBoundsException, IllegalStateException {
        Student who = studentAt(student);
        Course passed = courseAt(course);
        if (isIn(who.passedSet, course) || isIn(who.takenSet, course)) {
            throw new IllegalStateException("passed already or enrolled");
        }
        who.passedSet |= bit(course);
        who.wishList.remove(course);
        passed.takeOff(student);
        makeOffers();
        return Integer.bitCount(who.passedSet);
    }

    public int students() {
        return studentCount;
    }

    public boolean hasPassed(int student, int course) throws IndexOutOfBoundsException {
        Student who = studentAt(student);
        return isIn(who.passedSet, courseAt(course).number);
    }

    public boolean isEnrolled(int student, int course) throws IndexOutOfBoundsException {
        Student who = studentAt(student);
        return isIn(who.takenSet, courseAt(course).number);
    }

    public int credits(int student) throws IndexOutOfBoundsException {
        return creditsOf(studentAt(student).takenSet);
    }

    public int missing(int student, int course) throws IndexOutOfBoundsException {
        Student who = studentAt(student);
        return Integer.bitCount(courseAt(course).requiredSet & ~who.passedSet);
    }

    public int obstacle(int student, int course) throws IndexOutOfBoundsException {
        Student who = studentAt(student);
        return obstacleFor(who, courseAt(course), who.takenSet);
    }

    // ---- wishes

    public int wish(int student, int course)
            throws IndexOutOfBoundsException, IllegalStateException {
        Student who = studentAt(student);
        Course wished = courseAt(course);
        if (isIn(who.passedSet, wished.number) || isIn(who.takenSet, wished.number)) {
            throw new IllegalStateException("passed or enrolled");
        }
        if (who.wishList.placeOf(course) != NONE || who.wishList.size() >= MOST_WISHES) {
            throw new IllegalStateException("wished already or no more wishes");
        }
        who.wishList.add(course);
        return who.wishList.size() - 1;
    }

    public int dropWish(int student, int course)
            throws IndexOutOfBoundsException, IllegalStateException {
        Student who = studentAt(student);
        Course wished = courseAt(course);
        if (who.wishList.placeOf(wished.number) == NONE) {
            throw new IllegalStateException("not wished");
        }
        who.wishList.remove(course);
        return who.wishList.size();
    }

    public int wishes(int student) throws IndexOutOfBoundsException {
        return studentAt(student).wishList.size();
    }

    public int wishAt(int student, int place) throws IndexOutOfBoundsException {
        return foundAt(studentAt(student).wishList, place);
    }

    // ---- enrolling single students

    public int request(int student, int course)
            throws IndexOutOfBoundsException, IllegalStateException {
        Student who = studentAt(student);
        Course asked = courseAt(course);
        if (asked.waitingList.placeOf(student) != NONE) {
            throw new IllegalStateException("on the waiting list already");
        }
        if (obstacleFor(who, asked, who.takenSet) != NO_OBSTACLE) {
            throw new IllegalStateException("an obstacle");
        }
        int answer = 0;
        if (freeIn(asked) > 0) {
            enrol(who, asked);
        } else {
            asked.waitingList.add(student);
            answer = asked.waitingList.size();
        }
        makeOffers();
        return answer;
    }

    public int drop(int student, int course)
            throws IndexOutOfBoundsException, IllegalStateException {
        Student who = studentAt(student);
        Course left = courseAt(course);
        if (!isIn(who.takenSet, course)) {
            throw new IllegalStateException("not enrolled");
        }
        endEnrolment(who, left);
        makeOffers();
        return creditsOf(who.takenSet);
    }

    public int change(int student, int from, int to)
            throws IndexOutOfBoundsException, IllegalStateException {
        Student who = studentAt(student);
        Course left = courseAt(from);
        Course taken = courseAt(to);
        if (!isIn(who.takenSet, from) || from == to) {
            throw new IllegalStateException("not enrolled, or the same course");
        }
        if (obstacleFor(who, taken, who.takenSet & ~bit(from)) != NO_OBSTACLE) {
            throw new IllegalStateException("an obstacle");
        }
        if (freeIn(taken) <= 0) {
            throw new IllegalStateException("no free seat");
        }
        endEnrolment(who, left);
        enrol(who, taken);
        makeOffers();
        return creditsOf(who.takenSet);
    }

    // ---- waiting lists, days

    public int accept(int student, int course)
            throws IndexOutOfBoundsException, IllegalStateException {
        Student who = studentAt(student);
        Course offered = courseAt(course);
        if (!offered.hasOfferFor(student)) {
            throw new IllegalStateException("no offer");
        }
        if (obstacleFor(who, offered, who.takenSet) != NO_OBSTACLE) {
            throw new IllegalStateException("an obstacle");
        }
        enrol(who, offered);
        makeOffers();
        return creditsOf(who.takenSet);
    }

    public boolean leave(int student, int course)
            throws IndexOutOfBoundsException, IllegalStateException {
        Student who = studentAt(student);
        Course left = courseAt(course);
        if (left.waitingList.placeOf(who.number) == NONE) {
            throw new IllegalStateException("not on the waiting list");
        }
        boolean hadOffer = left.hasOfferFor(student);
        left.takeOff(student);
        makeOffers();
        return hadOffer;
    }

    public int advance(int days) throws IllegalArgumentException {
        if (isOutside(days, 1, MOST_DAYS)) {
            throw new IllegalArgumentException("days out of range");
        }
        int expired = 0;
        for (int passed = 0; passed < days; passed++) {
            today++;
            expired += endOldOffers();
            makeOffers();
        }
        return expired;
    }

    public int day() {
        return today;
    }

    public int waiting(int course) throws IndexOutOfBoundsException {
        return courseAt(course).waitingList.size();
    }

    public int waitingAt(int course, int place) throws IndexOutOfBoundsException {
        return foundAt(courseAt(course).waitingList, place);
    }

    public int offerDays(int student, int course) throws IndexOutOfBoundsException {
        Student who = studentAt(student);
        Course offered = courseAt(course);
        return offered.hasOfferFor(who.number) ? daysLeft(offered, who.number) : 0;
    }

    // ---- lottery rounds

    public int runLottery(int seed) throws IllegalArgumentException {
        if (seed < 0) {
            throw new IllegalArgumentException("seed below 0");
        }
        drawNumbers(seed);
        orderTurns();
        int winners = 0;
        for (int turn = 0; turn < studentCount; turn++) {
            if (takeTurn(studentAt(turns[turn] % MOST_STUDENTS))) {
                winners++;
            }
        }
        makeOffers();
        return winners;
    }

    public int lotteryNumber(int student) throws IndexOutOfBoundsException {
        return studentAt(student).drawnNumber;
    }

    // ---- exchanges

    public int putUp(int student, int course)
            throws IndexOutOfBoundsException, IllegalStateException {
        Student who = studentAt(student);
        Course put = courseAt(course);
        if (!isIn(who.takenSet, put.number)) {
            throw new IllegalStateException("not enrolled");
        }
        int before = who.coursePutUp;
        who.coursePutUp = course;
        return before;
    }

    public int withdraw(int student) throws IndexOutOfBoundsException {
        Student who = studentAt(student);
        int before = who.coursePutUp;
        who.coursePutUp = NONE;
        return before;
    }

    public int placeUp(int student) throws IndexOutOfBoundsException {
        return studentAt(student).coursePutUp;
    }

    public int pointsTo(int student) throws IndexOutOfBoundsException, IllegalStateException {
        Student who = studentAt(student);
        if (who.coursePutUp == NONE) {
            throw new IllegalStateException("no place put up");
        }
        return targetOf(who, participants());
    }

    public int runExchange() {
        int participants = participants();
        int open = participants;
        // Each round ends at least one circle, so there are no more rounds than students.
        for (int round = 0; round < studentCount && open != 0; round++) {
            pointAll(open);
            open &= ~onCircles(open);
        }
        int moved = movePlaces(participants);
        makeOffers();
        return moved;
    }

    // ---- what the calls share: arguments and sets

    private static boolean isOutside(int value, int least, int most) {
        return value < least || value > most;
    }

    private static int bit(int number) {
        return 1 << number;
    }

    private static boolean isIn(int set, int number) {
        return (set & (1 << number)) != 0;
    }

    private Course courseAt(int course) throws IndexOutOfBoundsException {
        if (course < 0 || course >= courseCount) {
            throw new IndexOutOfBoundsException("no such course");
        }
        return allCourses[course];
    }

    private Student studentAt(int student) throws IndexOutOfBoundsException {
        if (student < 0 || student >= studentCount) {
            throw new IndexOutOfBoundsException("no such student");
        }
        return allStudents[student];
    }

    private static int foundAt(Row row, int place) throws IndexOutOfBoundsException {
        int found = row.at(place);
        if (found == NONE) {
            throw new IndexOutOfBoundsException("nothing at this place");
        }
        return found;
    }

    // ---- what the calls share: prerequisites

    private void spreadRequired(Course changed, int added) {
        for (int c = 0; c < courseCount; c++) {
            Course each = allCourses[c];
            if (each == changed || isIn(each.requiredSet, changed.number)) {
                each.requiredSet |= added;
            }
        }
    }

    /** As no course requires itself, a chain of prerequisites is shorter than all courses are. */
    private int levelOf(Course course) {
        int level = 0;
        int reached = course.directSet;
        while (reached != 0 && level < courseCount) {
            reached = directOf(reached);
            level++;
        }
        return level;
    }

    private int directOf(int courseSet) {
        int direct = 0;
        for (int c = 0; c < courseCount; c++) {
            if (isIn(courseSet, c)) {
                direct |= allCourses[c].directSet;
            }
        }
        return direct;
    }

    // ---- what the calls share: seats and obstacles

    private int enrolledIn(Course course) {
        int count = 0;
        for (int s = 0; s < studentCount; s++) {
            if (isIn(allStudents[s].takenSet, course.number)) {
                count++;
            }
        }
        return count;
    }

    private int takenSeats(Course course) {
        return enrolledIn(course) + course.offers();
    }

    private int freeIn(Course course) {
        return course.seatCount - takenSeats(course);
    }

    private int creditsOf(int courseSet) {
        int sum = 0;
        for (int c = 0; c < courseCount; c++) {
            if (isIn(courseSet, c)) {
                sum += allCourses[c].creditPoints;
            }
        }
        return sum;
    }

    private int hoursOf(int courseSet) {
        int hours = 0;
        for (int c = 0; c < courseCount; c++) {
            if (isIn(courseSet, c)) {
                hours |= allCourses[c].hourSet;
            }
        }
        return hours;
    }

    /** The courses taken come as an argument: a place that would be given up does not count. */
    private int obstacleFor(Student who, Course course, int taken) {
        if (isIn(who.passedSet, course.number)) {
            return PASSED;
        }
        if (isIn(taken, course.number)) {
            return ENROLLED;
        }
        if ((course.requiredSet & ~who.passedSet) != 0) {
            return PREREQUISITE;
        }
        if (creditsOf(taken) + course.creditPoints > who.creditLimit) {
            return CREDITS;
        }
        if ((hoursOf(taken) & course.hourSet) != 0) {
            return CLASH;
        }
        return NO_OBSTACLE;
    }

    // ---- what the calls share: enrolments and offers

    private void enrol(Student who, Course course) {
        who.takenSet |= bit(course.number);
        who.wishList.remove(course.number);
        course.takeOff(who.number);
    }

    private void endEnrolment(Student who, Course course) {
        who.takenSet &= ~bit(course.number);
        if (who.coursePutUp == course.number) {
            who.coursePutUp = NONE;
        }
    }

    /** Offers are no obstacles, so that the order of the courses does not matter. */
    private void makeOffers() {
        for (int c = 0; c < courseCount; c++) {
            makeOffersFor(allCourses[c]);
        }
    }

    private void makeOffersFor(Course course) {
        int free = freeIn(course);
        for (int place = 0; place < course.waitingList.size() && free > 0; place++) {
            Student who = studentAt(course.waitingList.at(place));
            if (!course.hasOfferFor(who.number)
                    && obstacleFor(who, course, who.takenSet) == NO_OBSTACLE) {
                course.offerMadeOn[who.number] = today;
                free--;
            }
        }
    }

    private int daysLeft(Course course, int student) {
        return DAYS_OF_AN_OFFER - (today - course.offerMadeOn[student]);
    }

    private int endOldOffers() {
        int ended = 0;
        for (int c = 0; c < courseCount; c++) {
            Course each = allCourses[c];
            for (int s = 0; s < studentCount; s++) {
                if (each.hasOfferFor(s) && daysLeft(each, s) <= 0) {
                    each.takeOff(s);
                    ended++;
                }
            }
        }
        return ended;
    }

    // ---- what the lottery needs

    private void drawNumbers(int seed) {
        long x = seed;
        for (int s = 0; s < studentCount; s++) {
            x = (LOTTERY_FACTOR * x + LOTTERY_STEP) % LOTTERY_MODULUS;
            allStudents[s].drawnNumber = (int) (x / LOTTERY_DIVISOR);
        }
    }

    /** Band, lottery number and student number in one int, so that turns are sorted as ints. */
    private static int turnOf(Student who) {
        return (who.priorityBand * LOTTERY_NUMBERS + who.drawnNumber) * MOST_STUDENTS + who.number;
    }

    private void orderTurns() {
        for (int s = 0; s < studentCount; s++) {
            int turn = turnOf(allStudents[s]);
            int place = s;
            while (place > 0 && turns[place - 1] > turn) {
                turns[place] = turns[place - 1];
                place--;
            }
            turns[place] = turn;
        }
    }

    private boolean takeTurn(Student who) {
        for (int place = 0; place < who.wishList.size(); place++) {
            Course wished = courseAt(who.wishList.at(place));
            if (freeIn(wished) > 0 && obstacleFor(who, wished, who.takenSet) == NO_OBSTACLE) {
                enrol(who, wished);
                return true;
            }
        }
        return false;
    }

    // ---- what the exchange needs

    private int participants() {
        int set = 0;
        for (int s = 0; s < studentCount; s++) {
            if (allStudents[s].coursePutUp != NONE) {
                set |= bit(s);
            }
        }
        return set;
    }

    /** Nothing changes before all circles are found, so that asking anew answers the same. */
    private boolean isAcceptable(Student who, Course wished) {
        int others = who.takenSet & ~bit(who.coursePutUp);
        return obstacleFor(who, wished, others) == NO_OBSTACLE;
    }

    private int firstWhoPutUp(int course, int open) {
        for (int s = 0; s < studentCount; s++) {
            if (isIn(open, s) && allStudents[s].coursePutUp == course) {
                return s;
            }
        }
        return NONE;
    }

    /** Nobody wishes the place that is put up by oneself, so that a target is another student. */
    private int targetOf(Student who, int open) {
        for (int place = 0; place < who.wishList.size(); place++) {
            Course wished = courseAt(who.wishList.at(place));
            int target = firstWhoPutUp(wished.number, open);
            if (target != NONE && isAcceptable(who, wished)) {
                return target;
            }
        }
        return who.number;
    }

    private void pointAll(int open) {
        for (int s = 0; s < studentCount; s++) {
            if (isIn(open, s)) {
                Student who = allStudents[s];
                who.pointer = targetOf(who, open);
            }
        }
    }

    private boolean isOnCircle(Student who) {
        Student reached = studentAt(who.pointer);
        for (int step = 1; step < studentCount && reached != who; step++) {
            reached = studentAt(reached.pointer);
        }
        return reached == who;
    }

    private int onCircles(int open) {
        int set = 0;
        for (int s = 0; s < studentCount; s++) {
            if (isIn(open, s) && isOnCircle(allStudents[s])) {
                set |= bit(s);
            }
        }
        return set;
    }

    /** All gains are noted before the first move, because a move takes down the place put up. */
    private int movePlaces(int participants) {
        for (int s = 0; s < studentCount; s++) {
            Student who = allStudents[s];
            boolean moves = isIn(participants, s) && who.pointer != s;
            who.gain = moves ? studentAt(who.pointer).coursePutUp : NONE;
        }
        int moved = 0;
        for (int s = 0; s < studentCount; s++) {
            Student who = allStudents[s];
            if (who.gain != NONE) {
                endEnrolment(who, courseAt(who.coursePutUp));
                enrol(who, courseAt(who.gain));
                moved++;
            }
        }
        return moved;
    }

    /** A course; before it is added it has no seats, so that it gets neither places nor offers. */
    private static final class Course {
        final int number;
        final Row waitingList;
        final int[] offerMadeOn;
        int seatCount;
        int creditPoints;
        int hourSet;
        int directSet;
        int requiredSet;

        Course(int number) {
            this.number = number;
            waitingList = new Row(new int[MOST_STUDENTS]);
            offerMadeOn = new int[MOST_STUDENTS];
            for (int s = 0; s < offerMadeOn.length; s++) {
                offerMadeOn[s] = NONE;
            }
        }

        boolean hasOfferFor(int student) {
            return offerMadeOn[student] != NONE;
        }

        int offers() {
            int count = 0;
            for (int made : offerMadeOn) {
                if (made != NONE) {
                    count++;
                }
            }
            return count;
        }

        void takeOff(int student) {
            waitingList.remove(student);
            offerMadeOn[student] = NONE;
        }
    }

    /** A student; pointer and gain are of use only while an exchange runs. */
    private static final class Student {
        final int number;
        final Row wishList;
        int priorityBand;
        int creditLimit;
        int passedSet;
        int takenSet;
        int drawnNumber;
        int coursePutUp;
        int pointer;
        int gain;

        Student(int number) {
            this.number = number;
            wishList = new Row(new int[MOST_WISHES]);
            drawnNumber = NONE;
            coursePutUp = NONE;
            pointer = NONE;
            gain = NONE;
        }
    }

    /** Numbers in an order, none of them twice, no more of them than the array holds. */
    private static final class Row {
        private final int[] items;
        private int count;

        Row(int[] items) {
            this.items = items;
            count = 0;
        }

        int size() {
            return count;
        }

        int at(int place) {
            return place < 0 || place >= count ? NONE : items[place];
        }

        int placeOf(int item) {
            for (int place = 0; place < count; place++) {
                if (items[place] == item) {
                    return place;
                }
            }
            return NONE;
        }

        void add(int item) {
            if (count < items.length) {
                items[count] = item;
                count++;
            }
        }

        void remove(int item) {
            int place = placeOf(item);
            if (place != NONE) {
                for (int next = place + 1; next < count; next++) {
                    items[next - 1] = items[next];
                }
                count--;
            }
        }
    }
}
