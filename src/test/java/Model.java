import java.util.ArrayList;
import java.util.HashSet;
import java.util.LinkedHashMap;
import java.util.List;
import java.util.Map;
import java.util.Set;
import java.util.TreeSet;

/** The document once more, word by word and without a thought of speed: for comparison. */
public final class Model {
    private static final class Course {
        int seats;
        int credits;
        int hours;
        final Set<Integer> direct = new TreeSet<>();
        final List<Integer> queue = new ArrayList<>();
        final Map<Integer, Integer> offers = new LinkedHashMap<>();
    }

    private static final class Student {
        int band;
        int limit;
        Integer lottery;
        Integer up;
        final Set<Integer> passed = new TreeSet<>();
        final Set<Integer> in = new TreeSet<>();
        final List<Integer> wishes = new ArrayList<>();
    }

    private final List<Course> courses = new ArrayList<>();
    private final List<Student> students = new ArrayList<>();
    private int day;

    private static void argument(boolean right) {
        if (!right) {
            throw new IllegalArgumentException();
        }
    }

    private static void state(boolean right) {
        if (!right) {
            throw new IllegalStateException();
        }
    }

    private Course course(int course) {
        if (course < 0 || course >= courses.size()) {
            throw new IndexOutOfBoundsException();
        }
        return courses.get(course);
    }

    private Student student(int student) {
        if (student < 0 || student >= students.size()) {
            throw new IndexOutOfBoundsException();
        }
        return students.get(student);
    }

    private int offer() {
        for (int c = 0; c < courses.size(); c++) {
            Integer next = nextForOffer(c);
            while (free(c) > 0 && next != null) {
                courses.get(c).offers.put(next, day);
                next = nextForOffer(c);
            }
        }
        return 0;
    }

    private Integer nextForOffer(int c) {
        for (int s : courses.get(c).queue) {
            if (!courses.get(c).offers.containsKey(s) && obstacleNow(s, c, null) == 0) {
                return s;
            }
        }
        return null;
    }

    private int free(int c) {
        Course course = courses.get(c);
        return course.seats - inCourse(c) - course.offers.size();
    }

    private int inCourse(int c) {
        int count = 0;
        for (Student each : students) {
            count += each.in.contains(c) ? 1 : 0;
        }
        return count;
    }

    private Set<Integer> required(int c) {
        Set<Integer> all = new TreeSet<>();
        for (int direct : courses.get(c).direct) {
            all.add(direct);
            all.addAll(required(direct));
        }
        return all;
    }

    private int obstacleNow(int s, int c, Integer without) {
        Student who = students.get(s);
        Set<Integer> in = new TreeSet<>(who.in);
        in.remove(without == null ? -1 : without);
        if (who.passed.contains(c)) {
            return 1;
        }
        if (in.contains(c)) {
            return 2;
        }
        if (!who.passed.containsAll(required(c))) {
            return 3;
        }
        int sum = courses.get(c).credits;
        for (int each : in) {
            sum += courses.get(each).credits;
        }
        if (sum > who.limit) {
            return 4;
        }
        for (int each : in) {
            for (int hour = 0; hour < 30; hour++) {
                boolean here = (courses.get(c).hours >> hour) % 2 == 1;
                boolean there = (courses.get(each).hours >> hour) % 2 == 1;
                if (here && there) {
                    return 5;
                }
            }
        }
        return 0;
    }

    private void offList(int s, int c) {
        courses.get(c).queue.remove((Integer) s);
        courses.get(c).offers.remove(s);
    }

    private void enter(int s, int c) {
        students.get(s).in.add(c);
        students.get(s).wishes.remove((Integer) c);
        offList(s, c);
    }

    private void exit(int s, int c) {
        students.get(s).in.remove(c);
        if (students.get(s).up != null && students.get(s).up == c) {
            students.get(s).up = null;
        }
    }

    private int sum(int s) {
        int sum = 0;
        for (int c : students.get(s).in) {
            sum += courses.get(c).credits;
        }
        return sum;
    }

    public int addCourse(int seats, int credits, int hours) {
        argument(seats >= 0 && seats <= 16 && credits >= 1 && credits <= 12);
        argument(hours >= 0 && hours <= 1073741823);
        state(courses.size() < 20);
        Course added = new Course();
        added.seats = seats;
        added.credits = credits;
        added.hours = hours;
        courses.add(added);
        return courses.size() - 1 + offer();
    }

    public int setSeats(int course, int seats) {
        Course changed = course(course);
        argument(seats >= 0 && seats <= 16);
        state(seats >= inCourse(course) + changed.offers.size());
        int before = changed.seats;
        changed.seats = seats;
        return before + offer();
    }

    public int addPrerequisite(int course, int required) {
        course(course);
        course(required);
        state(course != required && !courses.get(course).direct.contains(required));
        state(!required(required).contains(course));
        courses.get(course).direct.add(required);
        return required(course).size() + offer();
    }

    public boolean requires(int course, int other) {
        course(course);
        course(other);
        return required(course).contains(other);
    }

    public int level(int course) {
        int level = 0;
        for (int each : course(course).direct) {
            level = Math.max(level, 1 + level(each));
        }
        return level;
    }

    public int courses() {
        return courses.size();
    }

    public int enrolled(int course) {
        course(course);
        return inCourse(course);
    }

    public int freeSeats(int course) {
        course(course);
        return free(course);
    }

    public int addStudent(int band, int limit) {
        argument(band >= 0 && band <= 3 && limit >= 1 && limit <= 40);
        state(students.size() < 16);
        Student added = new Student();
        added.band = band;
        added.limit = limit;
        students.add(added);
        return students.size() - 1 + offer();
    }

    public int pass(int student, int course) {
        Student who = student(student);
        course(course);
        state(!who.passed.contains(course) && !who.in.contains(course));
        who.passed.add(course);
        who.wishes.remove((Integer) course);
        offList(student, course);
        return who.passed.size() + offer();
    }

    public int students() {
        return students.size();
    }

    public boolean hasPassed(int student, int course) {
        Student who = student(student);
        course(course);
        return who.passed.contains(course);
    }

    public boolean isEnrolled(int student, int course) {
        Student who = student(student);
        course(course);
        return who.in.contains(course);
    }

    public int credits(int student) {
        student(student);
        return sum(student);
    }

    public int missing(int student, int course) {
        Student who = student(student);
        course(course);
        Set<Integer> left = required(course);
        left.removeAll(who.passed);
        return left.size();
    }

    public int obstacle(int student, int course) {
        student(student);
        course(course);
        return obstacleNow(student, course, null);
    }

    public int wish(int student, int course) {
        Student who = student(student);
        course(course);
        state(!who.passed.contains(course) && !who.in.contains(course));
        state(!who.wishes.contains(course) && who.wishes.size() < 6);
        who.wishes.add(course);
        return who.wishes.size() - 1;
    }

    public int dropWish(int student, int course) {
        Student who = student(student);
        course(course);
        state(who.wishes.contains(course));
        who.wishes.remove((Integer) course);
        return who.wishes.size();
    }

    public int wishes(int student) {
        return student(student).wishes.size();
    }

    public int wishAt(int student, int place) {
        return student(student).wishes.get(index(place, student(student).wishes.size()));
    }

    private static int index(int place, int size) {
        if (place < 0 || place >= size) {
            throw new IndexOutOfBoundsException();
        }
        return place;
    }

    public int request(int student, int course) {
        student(student);
        List<Integer> queue = course(course).queue;
        state(obstacleNow(student, course, null) == 0 && !queue.contains(student));
        if (free(course) > 0) {
            enter(student, course);
            return offer();
        }
        queue.add(student);
        offer();
        return queue.size();
    }

    public int drop(int student, int course) {
        Student who = student(student);
        course(course);
        state(who.in.contains(course));
        exit(student, course);
        return sum(student) + offer();
    }

    public int change(int student, int from, int to) {
        Student who = student(student);
        course(from);
        course(to);
        state(who.in.contains(from) && from != to);
        state(obstacleNow(student, to, from) == 0 && free(to) > 0);
        exit(student, from);
        enter(student, to);
        return sum(student) + offer();
    }

    public int accept(int student, int course) {
        student(student);
        state(course(course).offers.containsKey(student));
        state(obstacleNow(student, course, null) == 0);
        enter(student, course);
        return sum(student) + offer();
    }

    public boolean leave(int student, int course) {
        student(student);
        state(course(course).queue.contains(student));
        boolean had = courses.get(course).offers.containsKey(student);
        offList(student, course);
        offer();
        return had;
    }

    public int advance(int days) {
        argument(days >= 1 && days <= 7);
        int expired = 0;
        for (int i = 0; i < days; i++) {
            day++;
            for (int c = 0; c < courses.size(); c++) {
                for (int s : new HashSet<>(courses.get(c).offers.keySet())) {
                    if (courses.get(c).offers.get(s) + 3 == day) {
                        offList(s, c);
                        expired++;
                    }
                }
            }
            offer();
        }
        return expired;
    }

    public int day() {
        return day;
    }

    public int waiting(int course) {
        return course(course).queue.size();
    }

    public int waitingAt(int course, int place) {
        return course(course).queue.get(index(place, course(course).queue.size()));
    }

    public int offerDays(int student, int course) {
        student(student);
        Integer made = course(course).offers.get(student);
        return made == null ? 0 : made + 3 - day;
    }

    public int runLottery(int seed) {
        argument(seed >= 0);
        long x = seed;
        List<Integer> turns = new ArrayList<>();
        for (int s = 0; s < students.size(); s++) {
            x = (1103515245L * x + 12345) % 2147483648L;
            students.get(s).lottery = (int) (x / 65536);
            turns.add(s);
        }
        turns.sort((a, b) -> {
            int band = Integer.compare(students.get(a).band, students.get(b).band);
            int number = students.get(a).lottery.compareTo(students.get(b).lottery);
            return band != 0 ? band : number != 0 ? number : Integer.compare(a, b);
        });
        int winners = 0;
        for (int s : turns) {
            for (int c : students.get(s).wishes) {
                if (obstacleNow(s, c, null) == 0 && free(c) > 0) {
                    enter(s, c);
                    winners++;
                    break;
                }
            }
        }
        return winners + offer();
    }

    public int lotteryNumber(int student) {
        Integer number = student(student).lottery;
        return number == null ? -1 : number;
    }

    public int putUp(int student, int course) {
        Student who = student(student);
        course(course);
        state(who.in.contains(course));
        int before = placeUp(student);
        who.up = course;
        return before;
    }

    public int withdraw(int student) {
        Student who = student(student);
        int before = placeUp(student);
        who.up = null;
        return before;
    }

    public int placeUp(int student) {
        Student who = student(student);
        return who.up == null ? -1 : who.up;
    }

    public int pointsTo(int student) {
        state(student(student).up != null);
        return target(student, open());
    }

    private List<Integer> open() {
        List<Integer> open = new ArrayList<>();
        for (int s = 0; s < students.size(); s++) {
            if (students.get(s).up != null) {
                open.add(s);
            }
        }
        return open;
    }

    private int target(int s, List<Integer> open) {
        for (int c : students.get(s).wishes) {
            if (obstacleNow(s, c, students.get(s).up) == 0) {
                for (int other : open) {
                    if (other != s && students.get(other).up == c) {
                        return other;
                    }
                }
            }
        }
        return s;
    }

    /** One circle after the other, found from the last participant who is not done. */
    public int runExchange() {
        List<Integer> open = open();
        Map<Integer, Integer> gets = new LinkedHashMap<>();
        while (!open.isEmpty()) {
            int at = open.get(open.size() - 1);
            List<Integer> path = new ArrayList<>();
            while (!path.contains(at)) {
                path.add(at);
                at = target(at, open);
            }
            for (int s : path.subList(path.indexOf(at), path.size())) {
                int from = target(s, open);
                if (from != s) {
                    gets.put(s, students.get(from).up);
                }
            }
            open.removeAll(path.subList(path.indexOf(at), path.size()));
        }
        for (int s : gets.keySet()) {
            exit(s, students.get(s).up);
        }
        for (int s : gets.keySet()) {
            enter(s, gets.get(s));
        }
        return gets.size() + offer();
    }

    // What the made-up runs ask, to find calls that have something to do.

    boolean isWaiting(int student, int course) {
        student(student);
        return course(course).queue.contains(student);
    }

    boolean isParticipant(int student) {
        return student >= 0 && student < students.size() && students.get(student).up != null;
    }

    boolean someoneHasUp(int course) {
        for (Student each : students) {
            if (each.up != null && each.up == course) {
                return true;
            }
        }
        return false;
    }
}
