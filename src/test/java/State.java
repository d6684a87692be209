/** All that an office tells about itself, as one text. */
final class State {
    private State() {
    }

    static String of(CourseEnrolment office) {
        StringBuilder text = new StringBuilder();
        text.append("day ").append(office.day());
        text.append(", courses ").append(office.courses());
        text.append(", students ").append(office.students()).append('\n');
        for (int c = 0; c < office.courses(); c++) {
            addCourse(text, office, c);
        }
        for (int s = 0; s < office.students(); s++) {
            addStudent(text, office, s);
        }
        return text.toString();
    }

    private static void addCourse(StringBuilder text, CourseEnrolment office, int course) {
        text.append("course ").append(course).append(": level ").append(office.level(course));
        text.append(", enrolled ").append(office.enrolled(course));
        text.append(", free ").append(office.freeSeats(course)).append(", requires");
        for (int c = 0; c < office.courses(); c++) {
            if (office.requires(course, c)) {
                text.append(' ').append(c);
            }
        }
        text.append(", waiting");
        for (int place = 0; place < office.waiting(course); place++) {
            int student = office.waitingAt(course, place);
            text.append(' ').append(student).append('/').append(office.offerDays(student, course));
        }
        text.append('\n');
    }

    private static void addStudent(StringBuilder text, CourseEnrolment office, int student) {
        text.append("student ").append(student).append(": credits ").append(office.credits(student));
        text.append(", lottery ").append(office.lotteryNumber(student));
        text.append(", up ").append(office.placeUp(student));
        if (office.placeUp(student) != CourseEnrolment.NONE) {
            text.append(" -> ").append(office.pointsTo(student));
        }
        text.append(", wishes");
        for (int place = 0; place < office.wishes(student); place++) {
            text.append(' ').append(office.wishAt(student, place));
        }
        for (int c = 0; c < office.courses(); c++) {
            text.append(" | ").append(office.hasPassed(student, c) ? 'p' : '-');
            text.append(office.isEnrolled(student, c) ? 'e' : '-');
            text.append(office.missing(student, c)).append(office.obstacle(student, c));
            text.append(office.offerDays(student, c));
        }
        text.append('\n');
    }
}
