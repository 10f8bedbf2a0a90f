/** Promises 20 to 25: the day, marks, appeals, and what was known on which day. */
public final class MarkTest {
    private static final int LOW = Integer.MIN_VALUE;
    private static final int HIGH = Integer.MAX_VALUE;

    public static void main(String[] args) {
        later();
        mark();
        marksByTheTextAsItIs();
        mostMarks();
        appeal();
        untell();
        knownByDays();
        mainByDays();
        boardAlone();
        partsOfAnOldText();
        Due.close();
    }

    /** Three examiners, entries 0 and 1 of grade 1 (parts of 10 and 20), entry 2 of grade 2. */
    private static ExamTour office() {
        ExamTour office = new ExamTour();
        office.centre();
        office.examiner(0, 255);
        office.examiner(0, 0);
        office.examiner(0, 255);
        Due.read(office, 0, "grade 1{part p 10;part q 20;}grade 2{}");
        office.entry(1, 0, 1, 0, 9, 0);
        office.entry(2, 0, 1, 0, 9, -1);
        office.entry(3, 0, 2, 0, 9, -1);
        office.entry(3, 1, 1, 0, 9, -1);
        office.entry(3, 0, 3, 0, 9, -1);
        return office;
    }

    private static void later() {
        ExamTour office = new ExamTour();
        Due.is("0 days", office.later(0), 0);
        Due.is("1000 days", office.later(1000), 1000);
        for (int days : new int[] {-1, 1001, LOW, HIGH}) {
            Due.is("later(" + days + ")", office.later(days), -1);
            Due.is("the day stays", office.about(0), 1000);
        }
        for (int day = 2000; day <= 100000; day += 1000) {
            Due.is("later(1000)", office.later(1000), day);
        }
        Due.is("above 100,000", office.later(1), -1);
        Due.is("100,000", office.later(0), 100000);
        ExamTour other = new ExamTour();
        for (int i = 0; i < 99; i++) {
            other.later(1000);
        }
        Due.is("99,001", other.later(1), 99001);
        Due.is("100,001", other.later(1000), -1);
        Due.is("100,000", other.later(999), 100000);
    }

    private static void mark() {
        ExamTour office = office();
        int[][] wrong = {{-1, 0, 0, 1}, {5, 0, 0, 1}, {0, -1, 0, 1}, {0, 3, 0, 1}, {0, 5, 0, 1},
            {0, 0, -1, 1}, {0, 0, 2, 1}, {0, 0, 0, -1}, {0, 0, 0, 11}, {0, 0, 1, 21}, {2, 0, 0, 0},
            {3, 0, 0, 1}, {4, 0, 0, 1}, {LOW, 0, 0, 1}, {HIGH, 0, 0, 1}, {0, LOW, 0, 1},
            {0, HIGH, 0, 1}, {0, 0, LOW, 1}, {0, 0, HIGH, 1}, {0, 0, 0, LOW}, {0, 0, 0, HIGH}};
        for (int[] n : wrong) {
            Due.is("mark(" + n[0] + ", " + n[1] + ", " + n[2] + ", " + n[3] + ")",
                office.mark(n[0], n[1], n[2], n[3]), -1);
        }
        Due.is("no marks", office.about(5), 0);
        Due.is("the least", office.mark(0, 0, 0, 0), 0);
        Due.is("the most", office.mark(0, 0, 1, 20), 1);
        Due.is("the most", office.mark(1, 2, 0, 10), 2);
        Due.is("one without the instrument", office.mark(1, 1, 0, 10), 3);
        Due.is("marks", office.about(5), 4);
        Due.is("known", office.known(0, 0, 0), 0);
        Due.is("known", office.known(0, 1, 0), 20);
    }

    private static void marksByTheTextAsItIs() {
        ExamTour office = office();
        Due.read(office, 0, "grade 1{part p 5;}");
        Due.is("above the most of now", office.mark(0, 0, 0, 6), -1);
        Due.is("the most of now", office.mark(0, 0, 0, 5), 0);
        Due.is("no such part now", office.mark(0, 0, 1, 5), -1);
        Due.is("no such part now", office.appeal(0, 1, 5), -1);
        Due.is("above the most of now", office.appeal(0, 0, 6), -1);
        Due.is("an appeal", office.appeal(0, 0, 5), 1);
        Due.read(office, 0, "");
        Due.is("no grade now", office.mark(0, 0, 0, 1), -1);
        Due.is("no grade now", office.appeal(0, 0, 1), -1);
        Due.is("the marks stay", office.known(0, 0, 0), 5);
    }

    private static void mostMarks() {
        ExamTour office = office();
        for (int n = 0; n < 199; n++) {
            Due.is("mark", office.mark(0, 0, 0, n % 11), n);
        }
        Due.is("an appeal is the 200th", office.appeal(0, 0, 1), 199);
        Due.is("a 201st", office.mark(0, 0, 0, 1), -1);
        Due.is("a 201st", office.appeal(0, 0, 1), -1);
        Due.is("untelling makes no room", office.untell(0), true);
        Due.is("a 201st", office.mark(0, 0, 0, 1), -1);
        Due.is("marks", office.about(5), 200);
        Due.is("untell(200)", office.untell(200), false);
        Due.is("main of one without marks", office.main(1, 0), -1);
        Due.is("known of one without marks", office.known(1, 0, 0), -1);
        Due.is("main", office.main(0, 0), 0);
        office.session(0, 0);
        office.put(1, 0);
        Due.is("may", office.may(2, 0), 1);
        Due.is("hardness", office.hardness(0), -1000);
    }

    private static void appeal() {
        ExamTour office = office();
        Due.is("not marked", office.appeal(0, 0, 5), -1);
        office.mark(0, 0, 0, 5);
        office.mark(0, 1, 1, 5);
        int[][] wrong = {{-1, 0, 1}, {5, 0, 1}, {1, 0, 1}, {0, 1, 1}, {0, -1, 1}, {0, 2, 1}, {0, 0, -1},
            {0, 0, 11}, {LOW, 0, 1}, {0, HIGH, 1}, {0, 0, HIGH}, {2, 0, 0}, {3, 0, 0}};
        for (int[] n : wrong) {
            Due.is("appeal(" + n[0] + ", " + n[1] + ", " + n[2] + ")", office.appeal(n[0], n[1], n[2]), -1);
        }
        Due.is("nothing done", office.about(5), 2);
        Due.is("the least", office.appeal(0, 0, 0), 2);
        Due.is("known", office.known(0, 0, 0), 0);
        Due.is("the most", office.appeal(0, 0, 10), 3);
        Due.is("known", office.known(0, 0, 0), 10);
        Due.is("a later mark", office.mark(0, 0, 0, 7), 4);
        Due.is("the board's still", office.known(0, 0, 0), 10);
        Due.is("no examiner", office.main(0, 0), 0);
        Due.is("the last appeal untold", office.untell(3), true);
        Due.is("the one ahead of it", office.known(0, 0, 0), 0);
        Due.is("that too", office.untell(2), true);
        Due.is("the last of main's", office.known(0, 0, 0), 7);
        Due.is("those too", office.untell(4), true);
        Due.is("the first of main's", office.known(0, 0, 0), 5);
        Due.is("that too", office.untell(0), true);
        Due.is("no mark as known now", office.appeal(0, 0, 1), -1);
    }

    private static void untell() {
        ExamTour office = office();
        Due.is("none", office.untell(0), false);
        office.mark(0, 0, 0, 5);
        for (int mark : new int[] {-1, 1, 200, LOW, HIGH}) {
            Due.is("untell(" + mark + ")", office.untell(mark), false);
        }
        Due.is("known", office.known(0, 0, 0), 5);
        Due.is("untold", office.untell(0), true);
        Due.is("known no more", office.known(0, 0, 0), -1);
        Due.is("not twice", office.untell(0), false);
        office.later(3);
        Due.is("not later either", office.untell(0), false);
        Due.is("told and untold on one day", office.known(0, 0, 0), -1);
        Due.is("marks", office.about(5), 1);
    }

    private static void knownByDays() {
        ExamTour office = office();
        office.later(2);
        office.mark(0, 0, 0, 4);
        office.later(3);
        office.mark(0, 0, 0, 6);
        office.appeal(0, 0, 9);
        office.later(2);
        office.untell(2);
        office.later(1);
        office.untell(1);
        int[] due = {-1, -1, 4, 4, 4, 9, 9, 6, 4, 4};
        for (int day = 0; day < due.length; day++) {
            Due.is("known on " + day, office.known(0, 0, day), due[day]);
        }
        Due.is("ahead of all", office.known(0, 0, LOW), -1);
        Due.is("ahead of all", office.known(0, 0, -1), -1);
        Due.is("on the last of days", office.known(0, 0, HIGH), 4);
        Due.is("not marked", office.known(0, 1, 9), -1);
        Due.is("another entry", office.known(1, 0, 9), -1);
        for (int none : new int[] {LOW, -1, 6, HIGH}) {
            Due.is("no such part", office.known(0, none, 9), -1);
            Due.is("no such entry", office.known(none, 0, 9), -1);
        }
    }

    private static void mainByDays() {
        ExamTour office = office();
        Due.is("none", office.main(0, 0), -1);
        office.mark(0, 2, 1, 11);
        office.later(1);
        office.mark(0, 1, 0, 3);
        office.mark(0, 2, 0, 7);
        office.mark(0, 1, 1, 13);
        Due.is("main", office.main(0, 1), 2);
        Due.is("main's", office.known(0, 0, 1), 7);
        Due.is("main's", office.known(0, 1, 1), 11);
        office.later(1);
        office.untell(0);
        Due.is("who was it on 0", office.main(0, 0), 2);
        Due.is("on 1", office.main(0, 1), 2);
        Due.is("on 2", office.main(0, 2), 1);
        Due.is("the other's", office.known(0, 0, 2), 3);
        Due.is("the other's", office.known(0, 1, 2), 13);
        Due.is("main's on 1", office.known(0, 0, 1), 7);
        Due.is("main's on 1", office.known(0, 1, 1), 11);
        Due.is("ahead", office.main(0, -1), -1);
        Due.is("far behind", office.main(0, HIGH), 1);
        Due.is("another entry", office.main(1, 2), -1);
        Due.is("no such entry", office.main(-1, 2), -1);
        Due.is("no such entry", office.main(HIGH, 2), -1);
        office.mark(1, 0, 0, 1);
        Due.is("its own", office.main(1, 2), 0);
        Due.is("not this one's", office.main(0, 2), 1);
    }

    /** The board is no examiner, so its mark makes no main one. */
    private static void boardAlone() {
        ExamTour office = office();
        office.mark(0, 0, 0, 4);
        office.appeal(0, 0, 9);
        office.mark(0, 1, 0, 6);
        office.mark(0, 1, 1, 8);
        office.untell(0);
        Due.is("main", office.main(0, 0), 1);
        Due.is("the board's", office.known(0, 0, 0), 9);
        Due.is("main's", office.known(0, 1, 0), 8);
        office.untell(2);
        office.untell(3);
        Due.is("nobody", office.main(0, 0), -1);
        Due.is("the board's still", office.known(0, 0, 0), 9);
        Due.is("an appeal upon an appeal", office.appeal(0, 0, 2), 4);
        Due.is("the last", office.known(0, 0, 0), 2);
    }

    private static void partsOfAnOldText() {
        ExamTour office = office();
        office.mark(0, 0, 1, 17);
        Due.read(office, 0, "grade 1{part z 3;}");
        Due.is("its mark is known still", office.known(0, 1, 0), 17);
        Due.read(office, 0, "grade 1{part z 3;part y 2;}");
        Due.is("by its number", office.known(0, 1, 0), 17);
        office.mark(0, 0, 0, 1);
        Due.is("result", office.result(0, 0), 1);
    }
}
