/** Promises 28, 29 and 30: certificates, and when they hold. */
public final class CertificateTest {
    private static final int LOW = Integer.MIN_VALUE;
    private static final int HIGH = Integer.MAX_VALUE;

    public static void main(String[] args) {
        certify();
        certificate();
        holds();
        holdsNoMore();
        oneHeldOfTwo();
        byTheText();
        most();
        Due.close();
    }

    /** Parts of 10; 5 and more is a pass, 9 and more a merit. */
    private static ExamTour office() {
        ExamTour office = new ExamTour();
        office.centre();
        office.examiner(0, 255);
        Due.read(office, 0, "grade 1{part p 10;pass p>4;merit p>8;}");
        office.entry(1, 0, 1, 0, 9, -1);
        office.entry(2, 0, 1, 0, 9, -1);
        return office;
    }

    private static void certify() {
        ExamTour office = office();
        Due.is("no result", office.certify(0), -1);
        office.mark(0, 0, 0, 4);
        Due.is("failed", office.certify(0), -1);
        for (int entry : new int[] {LOW, -1, 2, HIGH}) {
            Due.is("certify(" + entry + ")", office.certify(entry), -1);
        }
        Due.is("none", office.about(6), 0);
        office.mark(0, 0, 0, 5);
        Due.is("passed", office.certify(0), 1);
        Due.is("one that holds", office.certify(0), -1);
        office.mark(0, 0, 0, 9);
        Due.is("one that holds, by better", office.certify(0), -1);
        Due.is("another entry", office.certify(1), -1);
        office.mark(1, 0, 0, 9);
        Due.is("another entry", office.certify(1), 2);
        Due.is("certificates", office.about(6), 2);
    }

    private static void certificate() {
        ExamTour office = office();
        office.later(7);
        office.mark(1, 0, 0, 9);
        office.mark(0, 0, 0, 5);
        office.certify(1);
        office.later(2);
        office.certify(0);
        int[][] due = {{1, 7, 2}, {0, 9, 1}};
        for (int number = 1; number <= 2; number++) {
            for (int what = 0; what < 3; what++) {
                Due.is("certificate(" + number + ", " + what + ")", office.certificate(number, what),
                    due[number - 1][what]);
            }
            for (int what : new int[] {LOW, -1, 3, HIGH}) {
                Due.is("certificate(" + number + ", " + what + ")", office.certificate(number, what), -1);
            }
        }
        for (int number : new int[] {LOW, -1, 0, 3, 61, HIGH}) {
            Due.is("certificate(" + number + ", 0)", office.certificate(number, 0), -1);
            Due.is("holds(" + number + ", 9)", office.holds(number, 9), -1);
        }
    }

    private static void holds() {
        ExamTour office = office();
        office.mark(0, 0, 0, 5);
        office.later(4);
        Due.is("given on 4", office.certify(0), 1);
        office.later(1);
        office.mark(0, 0, 0, 4);
        office.later(1);
        office.mark(0, 0, 0, 9);
        office.later(1);
        office.untell(2);
        office.untell(1);
        int[] due = {0, 0, 0, 0, 1, 0, 1, 1, 1};
        for (int day = 0; day < due.length; day++) {
            Due.is("holds on " + day, office.holds(1, day), due[day]);
        }
        Due.is("ahead", office.holds(1, -1), 0);
        Due.is("far ahead", office.holds(1, LOW), 0);
        Due.is("far behind", office.holds(1, HIGH), 1);
    }

    private static void holdsNoMore() {
        ExamTour office = office();
        office.mark(0, 0, 0, 10);
        Due.is("with merit", office.certify(0), 1);
        office.mark(0, 0, 0, 8);
        Due.is("passed alone", office.holds(1, 0), 0);
        Due.is("another for that", office.certify(0), 2);
        Due.is("its result", office.certificate(2, 2), 1);
        Due.is("which holds", office.holds(2, 0), 1);
        Due.is("no third", office.certify(0), -1);
        office.mark(0, 0, 0, 9);
        Due.is("merit again: the first", office.holds(1, 0), 1);
        Due.is("and the second", office.holds(2, 0), 1);
        Due.is("no third", office.certify(0), -1);
        office.untell(0);
        office.untell(1);
        office.untell(2);
        Due.is("no result", office.holds(1, 0), 0);
        Due.is("no result", office.holds(2, 0), 0);
        Due.is("none for that", office.certify(0), -1);
        office.mark(0, 0, 0, 0);
        Due.is("failed", office.holds(2, 0), 0);
    }

    private static void oneHeldOfTwo() {
        ExamTour office = office();
        office.mark(1, 0, 0, 5);
        Due.is("of the other", office.certify(1), 1);
        office.mark(0, 0, 0, 9);
        Due.is("of this", office.certify(0), 2);
        office.mark(0, 0, 0, 5);
        Due.is("the other's does not count", office.certify(0), 3);
        Due.is("this one does", office.certify(0), -1);
    }

    private static void byTheText() {
        ExamTour office = office();
        office.mark(0, 0, 0, 5);
        office.certify(0);
        Due.read(office, 0, "grade 1{part p 10;pass p>5;}");
        Due.is("not by this text", office.holds(1, 0), 0);
        Due.read(office, 0, "grade 1{part p 10;list l=m;must l;}");
        Due.is("not good", office.holds(1, 0), 0);
        office.piece(0, Due.name("m"));
        Due.is("good", office.holds(1, 0), 1);
        Due.read(office, 0, "");
        Due.is("no grade", office.holds(1, 0), 0);
    }

    private static void most() {
        ExamTour office = new ExamTour();
        for (int i = 0; i < 40; i++) {
            office.entry(i, 0, 1, 0, 9, -1);
        }
        Due.read(office, 0, "grade 1{merit 1;}");
        for (int i = 0; i < 40; i++) {
            Due.is("with merit", office.certify(i), i + 1);
        }
        Due.read(office, 0, "grade 1{}");
        for (int i = 0; i < 20; i++) {
            Due.is("passed", office.certify(i), i + 41);
        }
        Due.is("a 61st", office.certify(20), -1);
        Due.is("certificates", office.about(6), 60);
        Due.is("the last", office.certificate(60, 0), 19);
        Due.is("no other", office.certificate(61, 0), -1);
        Due.is("the last holds", office.holds(60, 0), 1);
    }
}
