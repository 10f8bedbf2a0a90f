/** Promises 10 to 16 and 19: centres, ways, examiners, sessions, and who may take them. */
public final class CircuitTest {
    private static final int LOW = Integer.MIN_VALUE;
    private static final int HIGH = Integer.MAX_VALUE;

    public static void main(String[] args) {
        centre();
        way();
        examiner();
        session();
        put();
        full();
        minutesAsTextsAre();
        may();
        heardAlready();
        stuck();
        Due.close();
    }

    private static void centre() {
        ExamTour office = new ExamTour();
        for (int n = 0; n < 8; n++) {
            Due.is("centres", office.about(2), n);
            Due.is("centre", office.centre(), n);
        }
        Due.is("a ninth", office.centre(), -1);
        Due.is("centres", office.about(2), 8);
    }

    private static void way() {
        ExamTour office = new ExamTour();
        Due.is("between none", office.way(0, 1, 5), false);
        office.centre();
        office.centre();
        office.centre();
        office.examiner(0, 0);
        office.session(1, 0);
        Due.is("0 at first", office.tour(), 0);
        Due.is("600", office.way(0, 1, 600), true);
        Due.is("there and back", office.tour(), 1200);
        Due.is("told the other way round", office.way(1, 0, 7), true);
        Due.is("alike both ways", office.tour(), 14);
        int[][] wrong = {{0, 0, 5}, {1, 1, 0}, {-1, 1, 5}, {0, -1, 5}, {3, 1, 5}, {0, 3, 5},
            {0, 1, -1}, {0, 1, 601}, {LOW, 1, 5}, {0, HIGH, 5}, {0, 1, LOW}, {0, 1, HIGH}, {8, 9, 1}};
        for (int[] n : wrong) {
            Due.is("way(" + n[0] + ", " + n[1] + ", " + n[2] + ")", office.way(n[0], n[1], n[2]), false);
            Due.is("doing nothing", office.tour(), 14);
        }
        Due.is("0", office.way(0, 1, 0), true);
        Due.is("0 then", office.tour(), 0);
        Due.is("another way", office.way(1, 2, 9), true);
        Due.is("another way", office.way(0, 2, 9), true);
        Due.is("does not change this one", office.tour(), 0);
    }

    private static void examiner() {
        ExamTour office = new ExamTour();
        Due.is("without a home", office.examiner(0, 1), -1);
        office.centre();
        office.centre();
        int[][] wrong = {{-1, 1}, {2, 1}, {LOW, 1}, {HIGH, 1}, {0, -1}, {0, 256}, {0, LOW}, {0, HIGH}};
        for (int[] n : wrong) {
            Due.is("examiner(" + n[0] + ", " + n[1] + ")", office.examiner(n[0], n[1]), -1);
        }
        Due.is("examiners", office.about(3), 0);
        int[] instruments = {0, 255, 1, 2, 4};
        for (int n = 0; n < 5; n++) {
            Due.is("examiner", office.examiner(n % 2, instruments[n]), n);
        }
        Due.is("a sixth", office.examiner(0, 1), -1);
        Due.is("examiners", office.about(3), 5);
    }

    private static void session() {
        ExamTour office = new ExamTour();
        Due.is("without a centre", office.session(0, 0), -1);
        office.centre();
        office.centre();
        int[][] wrong = {{-1, 1}, {2, 1}, {LOW, 1}, {HIGH, 1}, {0, -1}, {0, 100}, {0, LOW}, {0, HIGH}};
        for (int[] n : wrong) {
            Due.is("session(" + n[0] + ", " + n[1] + ")", office.session(n[0], n[1]), -1);
        }
        Due.is("sessions", office.about(4), 0);
        int[] days = {0, 99, 5, 5, 6, 7, 8, 9, 10};
        for (int n = 0; n < 9; n++) {
            Due.is("session", office.session(n % 2, days[n]), n);
        }
        Due.is("a tenth", office.session(0, 1), -1);
        Due.is("sessions", office.about(4), 9);
        for (int n = 0; n < 9; n++) {
            Due.is("its centre", office.of(n, 0), n % 2);
            Due.is("its day", office.of(n, 1), days[n]);
            Due.is("its entries", office.of(n, 2), 0);
            Due.is("their minutes", office.of(n, 3), 0);
        }
        for (int what : new int[] {LOW, -1, 4, HIGH}) {
            Due.is("of(0, " + what + ")", office.of(0, what), -1);
        }
        for (int n : new int[] {LOW, -1, 9, HIGH}) {
            Due.is("of(" + n + ", 0)", office.of(n, 0), -1);
            Due.is("of(" + n + ", 2)", office.of(n, 2), -1);
        }
    }

    private static void put() {
        ExamTour office = new ExamTour();
        office.centre();
        office.session(0, 1);
        office.session(0, 2);
        office.entry(0, 0, 1, 0, 9, -1);
        office.entry(1, 0, 1, 0, 9, -1);
        Due.is("in none, to none", office.put(0, -1), true);
        Due.is("to 0", office.put(0, 0), true);
        Due.is("to 0 again", office.put(0, 0), true);
        Due.is("counted once", office.of(0, 2), 1);
        Due.is("10 minutes", office.of(0, 3), 10);
        int[][] wrong = {{0, 2}, {0, -2}, {0, LOW}, {0, HIGH}, {2, 1}, {-1, 1}, {2, -1}, {LOW, -1}, {HIGH, 0}};
        for (int[] n : wrong) {
            Due.is("put(" + n[0] + ", " + n[1] + ")", office.put(n[0], n[1]), false);
        }
        Due.is("it stays", office.of(0, 2), 1);
        Due.is("the other to 0", office.put(1, 0), true);
        Due.is("two", office.of(0, 2), 2);
        Due.is("to 1", office.put(0, 1), true);
        Due.is("out of 0", office.of(0, 2), 1);
        Due.is("in 1", office.of(1, 2), 1);
        Due.is("to none", office.put(0, -1), true);
        Due.is("out of 1", office.of(1, 2), 0);
        Due.is("no minutes there", office.of(1, 3), 0);
    }

    private static void full() {
        ExamTour office = new ExamTour();
        office.centre();
        office.session(0, 1);
        office.session(0, 2);
        Due.read(office, 0, "grade 1{minutes 120;}grade 2{minutes 59;}grade 3{minutes 1;}grade 4{}");
        int[] grades = {1, 1, 2, 3, 3, 4};
        for (int n = 0; n < grades.length; n++) {
            office.entry(n, 0, grades[n], 0, 9, -1);
        }
        for (int n = 0; n < 4; n++) {
            Due.is("put(" + n + ", 0)", office.put(n, 0), true);
        }
        Due.is("300", office.of(0, 3), 300);
        Due.is("301", office.put(4, 0), false);
        Due.is("nothing done", office.of(0, 2), 4);
        Due.is("one that is in it, at 300", office.put(3, 0), true);
        Due.is("elsewhere", office.put(4, 1), true);
        Due.is("back when full", office.put(4, 0), false);
        Due.is("it stays where it was", office.of(1, 2), 1);
        Due.is("one out", office.put(3, -1), true);
        Due.is("one of 10", office.put(5, 0), false);
        Due.is("one of 1", office.put(4, 0), true);
        Due.is("300", office.of(0, 3), 300);
        // A grade that is told no more has 10 minutes.
        Due.read(office, 0, "grade 1{minutes 120;}grade 3{}");
        Due.is("with 10s", office.of(0, 3), 260);
    }

    private static void minutesAsTextsAre() {
        ExamTour office = new ExamTour();
        office.centre();
        office.session(0, 1);
        office.entry(0, 3, 1, 0, 9, -1);
        office.entry(0, 3, 1, 0, 9, -1);
        office.entry(0, 3, 1, 0, 9, -1);
        for (int n = 0; n < 3; n++) {
            office.put(n, 0);
        }
        Due.is("30", office.of(0, 3), 30);
        Due.read(office, 3, "grade 1{minutes 101;}");
        Due.is("as the text is", office.of(0, 3), 303);
        Due.is("would be full though it is in", office.put(2, 0), false);
        Due.is("it stays in", office.of(0, 2), 3);
        Due.is("out", office.put(2, -1), true);
        Due.is("and not in again", office.put(2, 0), false);
        Due.read(office, 3, "grade 1{minutes 100;}");
        Due.is("in again", office.put(2, 0), true);
    }

    private static void may() {
        ExamTour office = new ExamTour();
        office.centre();
        office.examiner(0, 0b10000001);
        office.examiner(0, 0b10);
        office.session(0, 1);
        office.session(0, 2);
        int[][] none = {{-1, 0}, {2, 0}, {0, -1}, {0, 2}, {LOW, 0}, {0, HIGH}, {5, 0}};
        for (int[] n : none) {
            Due.is("may(" + n[0] + ", " + n[1] + ")", office.may(n[0], n[1]), -1);
        }
        Due.is("an empty one", office.may(0, 0), 1);
        office.entry(0, 0, 1, 0, 9, -1);
        office.entry(0, 0, 1, 7, 9, -1);
        office.entry(0, 0, 1, 1, 9, -1);
        office.entry(0, 0, 1, 0, 9, 0);
        office.entry(0, 0, 1, 0, 9, 1);
        office.put(0, 0);
        office.put(1, 0);
        Due.is("has both", office.may(0, 0), 1);
        Due.is("has none", office.may(1, 0), 0);
        office.put(2, 0);
        Due.is("has not all", office.may(0, 0), 0);
        Due.is("has only one", office.may(1, 0), 0);
        Due.is("the other session", office.may(0, 1), 1);
        office.put(2, 1);
        Due.is("its only", office.may(1, 1), 1);
        office.put(3, 0);
        Due.is("a teacher", office.may(0, 0), 0);
        office.put(3, -1);
        Due.is("no teacher any more", office.may(0, 0), 1);
        office.put(4, 0);
        Due.is("another's pupil", office.may(0, 0), 1);
    }

    private static void heardAlready() {
        ExamTour office = new ExamTour();
        office.centre();
        office.examiner(0, 255);
        office.examiner(0, 255);
        office.session(0, 1);
        office.session(0, 2);
        Due.read(office, 0, "grade 1{part p 9;}");
        for (int n = 0; n < 3; n++) {
            office.entry(n == 2 ? 6 : 5, 0, 1, 0, 9, -1);
        }
        office.put(0, 0);
        office.put(1, 1);
        Due.is("a mark", office.mark(0, 0, 0, 3), 0);
        Due.is("the same entry", office.may(0, 0), 1);
        Due.is("another of the candidate", office.may(0, 1), 0);
        Due.is("another examiner", office.may(1, 1), 1);
        Due.is("the board's", office.appeal(0, 0, 4), 1);
        Due.is("is no examiner's", office.may(1, 1), 1);
        office.put(1, 0);
        Due.is("both in one", office.may(0, 0), 0);
        office.put(1, 1);
        Due.is("untold", office.untell(0), true);
        Due.is("does not count", office.may(0, 1), 1);
        office.mark(0, 0, 0, 5);
        office.put(1, -1);
        office.put(2, 1);
        Due.is("another candidate", office.may(0, 1), 1);
        office.later(5);
        office.put(1, 1);
        Due.is("a mark of another day", office.may(0, 1), 0);
    }

    private static void stuck() {
        ExamTour office = new ExamTour();
        Due.is("without sessions", office.stuck(), -1);
        office.centre();
        office.session(0, 1);
        Due.is("without examiners", office.stuck(), 0);
        office.examiner(0, 1);
        Due.is("an empty one", office.stuck(), -1);
        office.session(0, 1);
        office.session(0, 1);
        Due.is("that they are too few is another thing", office.stuck(), -1);
        office.entry(0, 0, 1, 1, 9, -1);
        office.entry(0, 0, 1, 1, 9, -1);
        office.put(0, 2);
        Due.is("the last", office.stuck(), 2);
        office.put(1, 1);
        Due.is("the first of two", office.stuck(), 1);
        office.examiner(0, 2);
        Due.is("one who may", office.stuck(), -1);
    }
}
