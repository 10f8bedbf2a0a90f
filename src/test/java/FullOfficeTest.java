import java.nio.charset.StandardCharsets;
import java.util.function.Supplier;

/** An office in which there is the most of everything, within its 512 calls; and wild calls upon it. */
public final class FullOfficeTest {
    private static final String[] WILD = {"min", "-2147483647", "-1000", "-3", "-2", "-1", "0", "1", "4", "5", "8",
        "9", "39", "40", "60", "61", "99", "100", "200", "255", "1400", "100000", "2147483646", "max"};
    private static final String[] CALLS = {"feed(#, 0, 0, 0, 0)", "feed(0, 0, 0, 0, #)", "end(#)", "syllabus(#)",
        "fault(#)", "grade(#, 1, 0)", "grade(0, #, 0)", "grade(0, 1, #)", "entry(#, 0, 1, 0, 9, -1)",
        "entry(0, #, 1, 0, 9, -1)", "entry(0, 0, #, 0, 9, -1)", "entry(0, 0, 1, #, 9, -1)", "entry(0, 0, 1, 0, #, -1)",
        "entry(0, 0, 1, 0, 9, #)", "piece(#, 'a')", "piece(0, #)", "judge(#)", "centre()", "way(#, 1, 5)",
        "way(0, #, 5)", "way(0, 1, #)", "examiner(#, 1)", "examiner(0, #)", "session(#, 1)", "session(0, #)",
        "put(#, 0)", "put(0, #)", "put(#, #)", "of(#, 0)", "of(#, 3)", "of(0, #)", "may(#, 0)", "may(0, #)", "tour()",
        "toured(#)", "stuck()", "later(#)", "mark(#, 0, 0, 1)", "mark(0, #, 0, 1)", "mark(0, 0, #, 1)",
        "mark(0, 0, 0, #)", "appeal(#, 0, 1)", "appeal(0, #, 1)", "appeal(0, 0, #)", "untell(#)", "known(#, 0, 0)",
        "known(0, #, 0)", "known(0, 0, #)", "known(#, #, #)", "main(#, 0)", "main(0, #)", "result(#, 0)",
        "result(0, #)", "result(#, #)", "hardness(#)", "certify(#)", "certificate(#, 0)", "certificate(1, #)",
        "holds(#, 0)", "holds(1, #)", "holds(#, #)", "about(#)"};

    public static void main(String[] args) {
        everythingIsFull();
        allCallsCount();
        wild(FullOfficeTest::empty);
        wild(FullOfficeTest::full);
        Due.close();
    }

    private static Run empty() {
        return new Run("a new object", new PlainOffice());
    }

    /** 486 calls: 8 CENTRES, 5 EXAMINERS, 9 SESSIONS, 40 ENTRIES of 4 PIECES, 200 MARKS, 60 CERTIFICATES. */
    private static Run full() {
        Run run = new Run("the most of everything", new PlainOffice()).dueTimes(8, "centre()", 0, 1)
            .dueTimes(5, "examiner(#, 255)", 0, 1).dueTimes(5, "session(7, 10)", 0, 1)
            .dueTimes(4, "session(7, 11)", 5, 1)
            .dueTimes(40, "entry(#, 0, 1, 0, 9, -1)", 0, 1);
        for (int piece = 1; piece <= 4; piece++) {
            run.dueTimes(40, "piece(#, 'p" + piece + "')", piece, 0);
        }
        twenty(run, "grade 1{merit 1;}   ");
        run.due("syllabus(0)", 1).dueTimes(40, "certify(#)", 1, 1);
        twenty(run, "grade 1{part p 9;}  ");
        run.due("syllabus(0)", 1);
        for (int examiner = 0; examiner < 5; examiner++) {
            run.dueTimes(40, "mark(#, " + examiner + ", 0, " + examiner + ")", 40 * examiner, 1);
        }
        return run.dueTimes(20, "certify(#)", 41, 1);
    }

    private static void twenty(Run run, String text) {
        int[] n = Due.five(text.getBytes(StandardCharsets.ISO_8859_1));
        run.due("feed(" + n[0] + ", " + n[1] + ", " + n[2] + ", " + n[3] + ", " + n[4] + ")", 20);
    }

    private static void everythingIsFull() {
        full().refused("centre()", -1).refused("examiner(0, 255)", -1).refused("session(0, 0)", -1)
            .refused("entry(0, 0, 1, 0, 9, -1)", -1).refused("piece(39, 'p5')", -1).refused("piece(0, 'p5')", -1)
            .refused("mark(39, 4, 0, 9)", -1).refused("appeal(39, 0, 9)", -1).refused("certify(20)", -1)
            .due("about(1)", 40).due("about(2)", 8).due("about(3)", 5).due("about(4)", 9).due("about(5)", 200)
            .due("about(6)", 60).due("known(39, 0, 0)", 0).due("hardness(0)", 2).due("hardness(4)", -3)
            .due("tour()", 0).due("toured(8)", 3).due("result(39, 0)", 1).due("holds(60, 0)", 1);
    }

    private static void allCallsCount() {
        Run run = new Run("at most 512 calls").dueTimes(511, "later(1)", 1, 1);
        Due.is("calls that are left", run.left(), 1);
        run.due("about(0)", 511);
    }

    /** Wild calls answer as the twin does; each may come behind others that changed something. */
    private static void wild(Supplier<Run> made) {
        Run run = made.get();
        for (String call : CALLS) {
            for (int i = 0; i < (call.contains("#") ? WILD.length : 1); i++) {
                if (run.left() < 1) {
                    run = made.get();
                }
                run.call(call.replace("#", WILD[i]));
            }
        }
    }
}
