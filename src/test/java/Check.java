import java.util.ArrayList;
import java.util.List;

/** What the tests ask: answers that are due, and refusals that change nothing. */
final class Check {
    interface Call {
        void run();
    }

    interface Asking {
        void ask(int number);
    }

    interface AskingBoth {
        void ask(int student, int course);
    }

    private Check() {
    }

    static void same(String what, long due, long got) {
        if (due != got) {
            throw new AssertionError(what + ": due is " + due + ", the answer was " + got);
        }
    }

    static void yes(String what, boolean got) {
        if (!got) {
            throw new AssertionError(what + ": due is true");
        }
    }

    static void no(String what, boolean got) {
        if (got) {
            throw new AssertionError(what + ": due is false");
        }
    }

    static void equal(String what, String due, String got) {
        if (!due.equals(got)) {
            throw new AssertionError(what + ": due is\n" + due + "\nbut it was\n" + got);
        }
    }

    /** The first line in which the two differ tells more than both texts, which are long. */
    private static void unchanged(String before, String after) {
        String[] due = before.split("\n");
        String[] got = after.split("\n");
        for (int i = 0; i < Math.min(due.length, got.length); i++) {
            equal("state after a refusal", due[i], got[i]);
        }
        same("lines of the state after a refusal", due.length, got.length);
    }

    /** The class of the exception must be this very one: what the machine throws is below it. */
    private static void refused(Class<?> due, Office office, Call call) {
        String before = State.of(office);
        Class<?> got = null;
        try {
            call.run();
        } catch (RuntimeException thrown) {
            got = thrown.getClass();
        }
        if (got != due) {
            throw new AssertionError("due is a " + due + ", but it was " + got);
        }
        unchanged(before, State.of(office));
    }

    static void noSuch(Office office, Call call) {
        refused(IndexOutOfBoundsException.class, office, call);
    }

    static void badArgument(Office office, Call call) {
        refused(IllegalArgumentException.class, office, call);
    }

    static void badState(Office office, Call call) {
        refused(IllegalStateException.class, office, call);
    }

    /** Numbers below 0 and from the count on; some would be right if a shift wrapped around. */
    static List<Integer> outside(int count) {
        List<Integer> numbers = new ArrayList<>(List.of(-1, count, 32, 64, -32,
                Integer.MIN_VALUE, Integer.MAX_VALUE));
        for (int limit : new int[] {6, 16, 20}) {
            if (limit > count) {
                numbers.add(limit);
            }
        }
        return numbers;
    }

    /** No number from outside is taken: not by this office, nor by one without any number. */
    static void refusesNumbers(Office office, int count, Asking asking) {
        for (int number : outside(count)) {
            noSuch(office, () -> asking.ask(number));
        }
    }

    static void refusesCourses(Office office, Asking asking) {
        refusesNumbers(office, office.twin().courses(), asking);
    }

    static void refusesStudents(Office office, Asking asking) {
        refusesNumbers(office, office.twin().students(), asking);
    }

    /** Neither an unknown student nor an unknown course, nor both, are taken. */
    static void refusesUnknown(Office office, AskingBoth asking) {
        int course = office.twin().courses();
        refusesStudents(office, s -> asking.ask(s, 0));
        refusesStudents(office, s -> asking.ask(s, course));
        refusesCourses(office, c -> asking.ask(0, c));
    }
}
