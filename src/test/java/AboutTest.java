/** Promise 31: the numbers of what there is. */
public final class AboutTest {
    public static void main(String[] args) {
        ExamTour office = new ExamTour();
        office.later(12);
        office.centre();
        for (int i = 0; i < 2; i++) {
            office.centre();
            office.examiner(0, 255);
        }
        for (int i = 0; i < 4; i++) {
            office.session(0, i);
        }
        Due.read(office, 0, "grade 1{part p 5;}");
        Due.read(office, 1, "grade 1{}grade 2{}");
        Due.read(office, 3, "grade 1{}grade 2{}grade 3{}grade 4{}");
        for (int i = 0; i < 7; i++) {
            office.entry(i, 0, 1, 0, 9, -1);
        }
        for (int i = 0; i < 6; i++) {
            office.mark(i, 0, 0, i % 6);
        }
        for (int i = 0; i < 5; i++) {
            office.certify(i);
        }
        office.feed(1, 2, 3, 4, 5);
        office.end(8);
        int[] due = {12, 7, 3, 2, 4, 6, 5, 8, -1, -1, 1, 2, 0, 4, -1, -1};
        for (int what = 0; what < due.length; what++) {
            Due.is("about(" + what + ")", office.about(what), due[what]);
        }
        for (int what : new int[] {Integer.MIN_VALUE, -10, -1, 20, Integer.MAX_VALUE}) {
            Due.is("about(" + what + ")", office.about(what), -1);
        }
        // A fault leaves the grades of a term as they were.
        office.end(0);
        Due.read(office, 1, "grade 0");
        Due.is("grades of term 1", office.about(11), 2);
        Due.is("bytes", office.about(7), 0);
        Due.close();
    }
}
