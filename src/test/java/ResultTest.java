/** Promise 26: results, and what the words of a pass and a merit mean. */
public final class ResultTest {
    public static void main(String[] args) {
        results();
        byDays();
        untoldRules();
        notGood();
        words();
        textAsItIs();
        fewerParts();
        wrongEntries();
        Due.close();
    }

    private static ExamTour office(String text) {
        ExamTour office = new ExamTour();
        office.centre();
        office.examiner(0, 255);
        office.examiner(0, 255);
        Due.is("taken", Due.read(office, 0, text) > 0, true);
        office.entry(1, 0, 1, 0, 9, -1);
        return office;
    }

    private static void results() {
        ExamTour office = office("grade 1{part p 100;part q 50;pass p>59 and q>29;merit p+q>129;}");
        Due.is("no marks", office.result(0, 0), -1);
        office.mark(0, 0, 0, 60);
        Due.is("a part without", office.result(0, 0), -1);
        office.mark(0, 0, 1, 29);
        Due.is("failed", office.result(0, 0), 0);
        office.mark(0, 0, 1, 30);
        Due.is("passed", office.result(0, 0), 1);
        office.mark(0, 0, 0, 100);
        Due.is("with merit", office.result(0, 0), 2);
        office.mark(0, 1, 0, 0);
        Due.is("another's mark does not count", office.result(0, 0), 2);
        office.appeal(0, 1, 29);
        Due.is("merit is not enough without pass", office.result(0, 0), 0);
    }

    private static void byDays() {
        ExamTour office = office("grade 1{part p 10;pass p>4;merit p>8;}");
        office.later(1);
        office.mark(0, 0, 0, 9);
        office.later(1);
        office.mark(0, 0, 0, 4);
        office.later(1);
        office.appeal(0, 0, 5);
        office.later(1);
        office.untell(2);
        office.untell(1);
        office.untell(0);
        int[] due = {-1, 2, 0, 1, -1, -1};
        for (int day = 0; day < due.length; day++) {
            Due.is("result on " + day, office.result(0, day), due[day]);
        }
        Due.is("ahead", office.result(0, -1), -1);
        Due.is("far behind", office.result(0, Integer.MAX_VALUE), -1);
        Due.is("far ahead", office.result(0, Integer.MIN_VALUE), -1);
    }

    private static void untoldRules() {
        Due.is("neither", office("grade 1{}").result(0, 0), 1);
        Due.is("neither, with musts", office("grade 1{must 1;}").result(0, -5), 1);
        Due.is("a pass of 0", office("grade 1{pass 0;}").result(0, 0), 0);
        Due.is("a pass of 0, a merit", office("grade 1{merit 1;pass 0;}").result(0, 0), 0);
        Due.is("a merit alone", office("grade 1{merit 5;}").result(0, 0), 2);
        Due.is("a merit of 0", office("grade 1{merit 0;}").result(0, 0), 1);
        Due.is("both", office("grade 1{merit 0-1;pass 0-1;}").result(0, 0), 2);
        Due.is("total and least without parts", office("grade 1{pass total=0 and least=0;}").result(0, 0), 1);
    }

    private static void notGood() {
        ExamTour office = office("grade 1{list a=b;must a;part p 10;}grade 2{}");
        office.mark(0, 0, 0, 9);
        Due.is("not good", office.result(0, 0), -1);
        office.piece(0, Due.name("b"));
        Due.is("good", office.result(0, 0), 1);
        office.entry(1, 1, 1, 0, 9, -1);
        Due.is("no text", office.result(1, 0), -1);
        office.entry(1, 0, 3, 0, 9, -1);
        Due.is("no grade", office.result(2, 0), -1);
        office.entry(1, 0, 2, 0, 9, -1);
        Due.is("another grade", office.result(3, 0), 1);
    }

    private static void words() {
        String parts = "grade 1{part a 200;part b 200;";
        String behind = "part c 200;}";
        rule(parts + "pass a=12;" + behind, true);
        rule(parts + "pass b=7;" + behind, true);
        rule(parts + "pass a=7;" + behind, false);
        rule(parts + "pass total=28;" + behind, true);
        rule(parts + "pass total=19;" + behind, false);
        rule(parts + "pass least=7;" + behind, true);
        rule(parts + "part c 200;pass c=9 and least<c and a>c;}", true);
        rule(parts + "part c 200;pass least=c;}", false);
        rule(parts + "pass a+b-1=18;" + behind, true);
        rule(parts + "pass not a=12 or b>7;" + behind, false);
    }

    private static void rule(String text, boolean passed) {
        ExamTour office = office(text);
        int[] marks = {12, 7, 9};
        for (int part = 0; part < 3; part++) {
            office.mark(0, 0, part, marks[part]);
        }
        Due.is(text, office.result(0, 0), passed ? 1 : 0);
        // The least may be the first, and the last part.
        office.mark(0, 0, 0, 3);
        Due.read(office, 0, "grade 1{part a 9;part b 9;part c 9;pass least=3;}");
        Due.is("the first is the least", office.result(0, 0), 1);
        office.mark(0, 0, 2, 1);
        Due.read(office, 0, "grade 1{part a 9;part b 9;part c 9;pass least=1;}");
        Due.is("the last is the least", office.result(0, 0), 1);
    }

    private static void textAsItIs() {
        ExamTour office = office("grade 1{part p 10;pass p>4;}");
        office.mark(0, 0, 0, 4);
        Due.is("failed", office.result(0, 0), 0);
        Due.read(office, 0, "grade 1{part p 3;pass p>3;merit p=4;}");
        Due.is("by the new text, with the old mark", office.result(0, 0), 2);
        Due.read(office, 0, "grade 1{part p 3;part q 3;}");
        Due.is("a new part has no mark", office.result(0, 0), -1);
        Due.read(office, 0, "grade 1{pass 1;}");
        Due.is("no parts", office.result(0, 0), 1);
        Due.read(office, 0, "grade 2{}");
        Due.is("no grade", office.result(0, 0), -1);
    }

    /** Marks that were looked at for one entry must not be seen for another. */
    private static void fewerParts() {
        ExamTour office = office("grade 1{part a 9;part b 9;part c 9;}"
            + "grade 2{part a 9;pass total=7 and least=7;}grade 3{pass total=0 and least=0;}"
            + "grade 4{part a 9;part b 9;pass total=10 and least=4;}");
        office.entry(1, 0, 2, 0, 9, -1);
        office.entry(1, 0, 3, 0, 9, -1);
        office.entry(1, 0, 4, 0, 9, -1);
        for (int part = 0; part < 3; part++) {
            office.mark(0, 0, part, 3);
        }
        office.mark(1, 0, 0, 7);
        office.mark(3, 0, 0, 6);
        office.mark(3, 0, 1, 4);
        int[] due = {1, 1, 1, 1};
        for (int entry = 3; entry >= 0; entry--) {
            office.result(0, 0);
            Due.is("result of " + entry, office.result(entry, 0), due[entry]);
        }
    }

    private static void wrongEntries() {
        ExamTour office = office("grade 1{}");
        for (int entry : new int[] {Integer.MIN_VALUE, -1, 1, 40, Integer.MAX_VALUE}) {
            Due.is("result(" + entry + ", 0)", office.result(entry, 0), -1);
        }
    }
}
