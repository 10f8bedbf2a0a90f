/** Promise 27: how hard examiners are. */
public final class HardnessTest {
    public static void main(String[] args) {
        nothingToTellBy();
        middle();
        lastOnesOfBoth();
        eachPair();
        asKnownNow();
        most();
        Due.close();
    }

    private static ExamTour office() {
        ExamTour office = new ExamTour();
        office.centre();
        for (int i = 0; i < 5; i++) {
            office.examiner(0, 255);
        }
        Due.read(office, 0, "grade 1{part a 200;part b 200;part c 200;part d 200;part e 200;}");
        for (int i = 0; i < 40; i++) {
            office.entry(i, 0, 1, 0, 9, -1);
        }
        return office;
    }

    private static void nothingToTellBy() {
        ExamTour office = office();
        Due.is("no marks", office.hardness(0), -1000);
        office.mark(0, 0, 0, 5);
        Due.is("alone", office.hardness(0), -1000);
        office.mark(0, 1, 1, 5);
        office.mark(1, 1, 0, 5);
        Due.is("another part, another entry", office.hardness(0), -1000);
        office.appeal(0, 0, 50);
        Due.is("the board is no examiner", office.hardness(0), -1000);
        for (int examiner : new int[] {Integer.MIN_VALUE, -1, 5, 6, Integer.MAX_VALUE}) {
            Due.is("hardness(" + examiner + ")", office.hardness(examiner), -1000);
        }
        Due.is("a new one", new ExamTour().hardness(0), -1000);
    }

    private static void middle() {
        ExamTour office = office();
        int[] gaps = {30, -10, 7, 7, 100};
        int[] due = {30, -10, 7, 7, 7};
        int[] dueOfOther = {-30, -30, -7, -7, -7};
        for (int part = 0; part < 5; part++) {
            office.mark(3, 0, part, 50);
            office.mark(3, 1, part, 50 + gaps[part]);
            Due.is("after " + part, office.hardness(0), due[part]);
            Due.is("the other after " + part, office.hardness(1), dueOfOther[part]);
        }
        office.mark(4, 0, 0, 200);
        office.mark(4, 1, 0, 0);
        Due.is("the lower of both in the middle", office.hardness(0), 7);
        office.mark(5, 0, 0, 200);
        office.mark(5, 1, 0, 0);
        Due.is("seven of them", office.hardness(0), 7);
        office.mark(6, 0, 0, 200);
        office.mark(6, 1, 0, 0);
        Due.is("eight of them", office.hardness(0), -10);
        Due.is("eight of the other's", office.hardness(1), -7);
    }

    private static void lastOnesOfBoth() {
        ExamTour office = office();
        office.mark(0, 0, 0, 10);
        office.mark(0, 1, 0, 20);
        office.mark(0, 0, 0, 13);
        office.mark(0, 1, 0, 27);
        Due.is("14", office.hardness(0), 14);
        Due.is("-14", office.hardness(1), -14);
        office.untell(3);
        Due.is("7", office.hardness(0), 7);
        office.untell(2);
        Due.is("10", office.hardness(0), 10);
        office.untell(1);
        Due.is("nothing", office.hardness(0), -1000);
        Due.is("nothing", office.hardness(1), -1000);
    }

    private static void eachPair() {
        ExamTour office = office();
        office.mark(0, 2, 3, 100);
        office.mark(0, 0, 3, 110);
        office.mark(0, 4, 3, 105);
        office.mark(0, 1, 3, 180);
        Due.is("of 5, 10, 80", office.hardness(2), 10);
        Due.is("of -80, -75, -70", office.hardness(1), -75);
        Due.is("of -10, -5, 70", office.hardness(0), -5);
        Due.is("of -5, 5, 75", office.hardness(4), 5);
        Due.is("without marks", office.hardness(3), -1000);
        office.mark(0, 3, 3, 0);
        Due.is("of -100, 5, 10, 80", office.hardness(2), 5);
    }

    private static void asKnownNow() {
        ExamTour office = office();
        office.mark(0, 0, 0, 1);
        office.later(1000);
        office.mark(0, 1, 0, 4);
        Due.is("of two days", office.hardness(0), 3);
        office.later(1);
        Due.is("still", office.hardness(0), 3);
        // Marks of parts that the text tells no more are marks all the same.
        Due.read(office, 0, "");
        Due.is("without a text", office.hardness(1), -3);
        office.untell(1);
        Due.is("untold", office.hardness(0), -1000);
    }

    private static void most() {
        ExamTour office = office();
        int n = 0;
        for (int entry = 0; entry < 8; entry++) {
            for (int part = 0; part < 5; part++) {
                for (int examiner = 0; examiner < 5; examiner++) {
                    Due.is("mark", office.mark(entry, examiner, part, 200 - n), n);
                    n++;
                }
            }
        }
        int[] due = {-3, -2, -1, 1, 2};
        for (int examiner = 0; examiner < 5; examiner++) {
            Due.is("hardness(" + examiner + ")", office.hardness(examiner), due[examiner]);
        }
    }
}
