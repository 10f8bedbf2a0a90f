/** Promises 1, 2 and 3: a new object, and its tape. */
public final class TapeTest {
    public static void main(String[] args) {
        newObject();
        feed();
        end();
        Due.close();
    }

    private static void newObject() {
        ExamTour office = new ExamTour();
        for (int what = 0; what <= 7; what++) {
            Due.is("about " + what + " of a new one", office.about(what), 0);
        }
        for (int term = 0; term < 4; term++) {
            Due.is("grades of term " + term + " of a new one", office.about(10 + term), 0);
            Due.is("grade of a new one", office.grade(term, 1, 0), -1);
        }
        Due.is("fault of a new one", office.fault(0), 0);
        Due.is("place of a new one", office.fault(1), -1);
        Due.is("judge of a new one", office.judge(0), -3);
        Due.is("tour of a new one", office.tour(), 0);
        Due.is("toured of a new one", office.toured(0), -1);
        Due.is("stuck of a new one", office.stuck(), -1);
        Due.is("later of a new one", office.later(0), 0);
    }

    private static void feed() {
        ExamTour office = new ExamTour();
        for (int i = 1; i <= 70; i++) {
            Due.is("feed " + i, office.feed(i, -i, 0, 1 << 31, 7), 20 * i);
        }
        Due.is("feed beyond 1,400", office.feed(0, 0, 0, 0, 0), -1);
        Due.is("bytes on a full tape", office.about(7), 1400);
        Due.is("end", office.end(1381), 1381);
        Due.is("feed to 1,401", office.feed(0, 0, 0, 0, 0), -1);
        Due.is("bytes stay", office.about(7), 1381);
        Due.is("end", office.end(1380), 1380);
        Due.is("feed to 1,400", office.feed(0, 0, 0, 0, 0), 1400);
        bytesStandHighestFirst();
    }

    private static void bytesStandHighestFirst() {
        ExamTour office = new ExamTour();
        // "grade 1 { minutes 7 ;}" needs each byte at its place, also those of the second twenty.
        Due.is("syllabus", Due.read(office, 1, "grade 1 { minutes 7 ;}"), 1);
        Due.is("minutes", office.grade(1, 1, 3), 7);
        office.feed(-1, 0x80818283, 0x20202020, 0x20202020, 0x20202020);
        Due.is("a byte of 255 is no token", office.syllabus(1), -1);
        Due.is("fault", office.fault(0), 1);
        Due.is("place", office.fault(1), 0);
    }

    private static void end() {
        ExamTour office = new ExamTour();
        Due.is("end(1) of none", office.end(1), -1);
        Due.is("end(0) of none", office.end(0), 0);
        office.feed(0, 0, 0, 0, 0);
        Due.is("end(-1)", office.end(-1), -1);
        Due.is("end(21)", office.end(21), -1);
        Due.is("end(min)", office.end(Integer.MIN_VALUE), -1);
        Due.is("end(max)", office.end(Integer.MAX_VALUE), -1);
        Due.is("bytes stay", office.about(7), 20);
        Due.is("end(20)", office.end(20), 20);
        Due.is("end(7)", office.end(7), 7);
        Due.is("bytes", office.about(7), 7);
        Due.is("end(8) behind 7", office.end(8), -1);
        Due.is("feed behind 7", office.feed(0, 0, 0, 0, 0), 27);
        Due.is("end(0)", office.end(0), 0);
        Due.is("bytes", office.about(7), 0);
        // What end() cut off does not come back.
        Due.feed(office, "grade 1 {}");
        office.end(8);
        Due.feed(office, "}{");
        Due.is("syllabus of 'grade 1 }{'", office.syllabus(0), -1);
        Due.is("place", office.fault(1), 8);
    }
}
