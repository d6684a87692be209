/** What the tests ask: answers that are due, and refusals that change nothing. */
final class Check {
    interface Call {
        void run();
    }

    private Check() {
    }

    static void same(String what, long due, long got) {
        if (due != got) {
            throw new AssertionError(what + ": due is " + due + ", the answer was " + got);
        }
    }

    static void yes(String what, boolean got) {
        if (!got) {
            throw new AssertionError(what + ": due is true");
        }
    }

    static void no(String what, boolean got) {
        if (got) {
            throw new AssertionError(what + ": due is false");
        }
    }

    static void equal(String what, String due, String got) {
        if (!due.equals(got)) {
            throw new AssertionError(what + ": due is\n" + due + "\nbut it was\n" + got);
        }
    }

    /** The class of the exception must be this very one: what the machine throws is below it. */
    private static void refused(Class<?> due, CourseEnrolment office, Call call) {
        String before = State.of(office);
        Class<?> got = null;
        try {
            call.run();
        } catch (RuntimeException thrown) {
            got = thrown.getClass();
        }
        if (got != due) {
            throw new AssertionError("due is a " + due + ", but it was " + got);
        }
        equal("state after a refusal", before, State.of(office));
    }

    static void noSuch(CourseEnrolment office, Call call) {
        refused(IndexOutOfBoundsException.class, office, call);
    }

    static void badArgument(CourseEnrolment office, Call call) {
        refused(IllegalArgumentException.class, office, call);
    }

    static void badState(CourseEnrolment office, Call call) {
        refused(IllegalStateException.class, office, call);
    }
}
