/** Promises 4 and 6: texts that are taken, and what their grades tell. */
public final class SyllabusTest {
    public static void main(String[] args) {
        terms();
        takenTexts();
        grades();
        mostOfAll();
        deepest();
        textsAreExchanged();
        nothingOfAnOldText();
        Due.close();
    }

    private static void terms() {
        ExamTour office = new ExamTour();
        Due.feed(office, "grade 1 {} grade 8 {}");
        for (int term : new int[] {-1, 4, Integer.MIN_VALUE, Integer.MAX_VALUE}) {
            Due.is("syllabus(" + term + ")", office.syllabus(term), -2);
            Due.is("the tape stays", office.about(7), 21);
        }
        Due.is("syllabus(3)", office.syllabus(3), 2);
        Due.is("the tape is empty then", office.about(7), 0);
        Due.is("term 3", office.about(13), 2);
        Due.is("syllabus(0) of an empty tape", office.syllabus(0), 0);
        Due.is("no fault", office.fault(0), 0);
        Due.is("term 0", office.about(10), 0);
        Due.is("an empty text instead", office.syllabus(3), 0);
        Due.is("term 3", office.about(13), 0);
    }

    private static void takenTexts() {
        Due.good("", 0);
        Due.good(" \n  \n", 0);
        Due.good("grade 1{}", 1);
        Due.good("grade\n8\n{\n}\ngrade 7{}grade 001{}", 3);
        Due.good("grade 1{list a=a;}", 1);
        Due.good("grade 1{list a=b,c;list d=b,c;part e 1;part f 200;}", 1);
        Due.good("grade 1{list x=y;}grade 2{list x=y;part z 3;}", 2);
        Due.good("grade 1{list abcdefgh=a2345678;part b1 000001;minutes 120;}", 1);
        Due.good("grade 1{minutes 1;pass 1;merit 0;must 999999;}", 1);
        Due.good("grade 1{list a=b;must a and own or pieces and not age;}", 1);
        Due.good("grade 1{part a 9;pass a+total-least<7 and 1;merit(a)>(3);}", 1);
        Due.good("grade 1{must 1<2+3 or 4=5 and 6>7;must not not 1=1;}", 1);
        // Words that only begin like kept ones are names.
        Due.good("grade 1{list grades=listen,ort,no,own1;part mini 3;must grades;pass mini;}", 1);
        // Signs and words part each other without blanks.
        Due.good("grade 1{must(1)and(2)or(not 3);}", 1);
    }

    private static void grades() {
        ExamTour office = new ExamTour();
        Due.is("syllabus", Due.read(office, 2, "grade 3{list a=b,c;list d=e;part p 7;part q 200;"
            + "part r 1;minutes 33;must 1;} grade 5{}"), 2);
        int[] due = {2, 3, 1, 33, -1};
        for (int what = 0; what < due.length; what++) {
            Due.is("grade(2, 3, " + what + ")", office.grade(2, 3, what), due[what]);
        }
        int[] most = {-1, 7, 200, 1, -1};
        for (int k = -1; k < 4; k++) {
            Due.is("most of " + k, office.grade(2, 3, 10 + k), most[k + 1]);
        }
        int[] empty = {0, 0, 0, 10, -1};
        for (int what = 0; what < empty.length; what++) {
            Due.is("grade(2, 5, " + what + ")", office.grade(2, 5, what), empty[what]);
        }
        Due.is("no part", office.grade(2, 5, 10), -1);
        for (int grade : new int[] {Integer.MIN_VALUE, -1, 0, 1, 4, 8, 9, Integer.MAX_VALUE}) {
            Due.is("grade(2, " + grade + ", 0)", office.grade(2, grade, 0), -1);
        }
        for (int term : new int[] {Integer.MIN_VALUE, -1, 0, 1, 3, 4, Integer.MAX_VALUE}) {
            Due.is("grade(" + term + ", 3, 0)", office.grade(term, 3, 0), -1);
        }
        for (int what : new int[] {Integer.MIN_VALUE, -1, 5, 16, Integer.MAX_VALUE}) {
            Due.is("grade(2, 3, " + what + ")", office.grade(2, 3, what), -1);
        }
    }

    private static void mostOfAll() {
        StringBuilder text = new StringBuilder("grade 4{");
        for (int list = 0; list < 6; list++) {
            text.append("list l").append(list).append("=a,b,c,d,e,f,g,h,i,j,k,l;");
        }
        for (int part = 0; part < 6; part++) {
            text.append("part p").append(part).append(' ').append(100 + part).append(';');
        }
        text.append(Due.times(8, "must 1;")).append("minutes 2;pass 1;merit 1;}");
        ExamTour office = new ExamTour();
        Due.is("the most of a grade", Due.read(office, 0, text.toString()), 1);
        Due.is("lists", office.grade(0, 4, 0), 6);
        Due.is("parts", office.grade(0, 4, 1), 6);
        Due.is("musts", office.grade(0, 4, 2), 8);
        Due.is("minutes", office.grade(0, 4, 3), 2);
        Due.is("most of the last part", office.grade(0, 4, 15), 105);
        StringBuilder all = new StringBuilder();
        for (int grade = 8; grade >= 1; grade--) {
            all.append("grade ").append(grade).append("{minutes ").append(grade).append(";}");
        }
        Due.is("all grades", Due.read(office, 0, all.toString()), 8);
        for (int grade = 1; grade <= 8; grade++) {
            Due.is("minutes of " + grade, office.grade(0, grade, 3), grade);
        }
        Due.good("grade 1{must 1" + Due.times(149, "+1") + ";}", 1);
        Due.good("grade 1{must 1" + Due.times(49, "+1") + ";}grade 2{pass 1" + Due.times(99, "+1") + ";}", 2);
        String full = "grade 1{must 1;}";
        Due.good(full + Due.times(1400 - full.length(), " "), 1);
    }

    private static void deepest() {
        Due.good("grade 1{must " + Due.times(7, "(") + "1" + Due.times(7, ")") + ";}", 1);
        Due.good("grade 1{must " + Due.times(7, "not ") + "1;}", 1);
        Due.good("grade 1{must (not (not (not (1))));}", 1);
        Due.good("grade 1{must " + Due.times(3, "not (") + "not 1" + Due.times(3, ")") + ";}", 1);
        // Side by side is not within.
        Due.good("grade 1{must 1" + Due.times(20, " and (not (1))") + ";}", 1);
        ExamTour office = new ExamTour();
        Due.read(office, 0, "grade 1{must " + Due.times(7, "not ") + "0;must " + Due.times(6, "not ") + "0;}");
        office.entry(0, 0, 1, 0, 9, -1);
        Due.is("seven nots of 0 are 1, six are 0", office.judge(0), 1);
        longestRules();
    }

    /** The text that needs most cells for its e's: its last must still counts. */
    private static void longestRules() {
        String text = "grade 1{must not not 1" + Due.times(70, " and not not 1")
            + ";must not 0" + Due.times(30, "+1") + ";must " + Due.times(7, "not ") + "1;}";
        ExamTour office = new ExamTour();
        Due.is("long rules", Due.read(office, 0, text), 1);
        office.entry(0, 0, 1, 0, 9, -1);
        Due.is("the second of long rules", office.judge(0), 1);
        String nots = "";
        for (int grade = 1; grade <= 5; grade++) {
            nots += "grade " + grade + "{" + Due.times(8, "must " + Due.times(6, "not ") + "1;") + "}";
        }
        nots += "grade 6{must 0;}";
        Due.is("many nots", Due.read(office, 0, nots), 6);
        office.entry(0, 0, 6, 0, 9, -1);
        office.entry(0, 0, 5, 0, 9, -1);
        Due.is("the last of many nots", office.judge(1), 0);
        Due.is("the one ahead of it", office.judge(2), -1);
    }

    /** What one text filled must not be seen, nor counted, in those read after it. */
    private static void nothingOfAnOldText() {
        ExamTour office = new ExamTour();
        office.entry(0, 0, 1, 0, 9, -1);
        office.piece(0, Due.name("l"));
        office.piece(0, Due.name("m"));
        office.piece(0, Due.name("n"));
        StringBuilder full = new StringBuilder("grade 1{minutes 9;pass 1;merit 1;");
        for (int i = 0; i < 6; i++) {
            full.append("list l").append(i).append("=n,l,c,d,e,f,g,h,i,j,k,b;");
            full.append("part p").append(i).append(" 9;");
        }
        full.append(Due.times(7, "must 1;")).append("must not not not 0").append(Due.times(140, "+0")).append(";}");
        for (int turn = 0; turn < 5; turn++) {
            Due.is("a full one", Due.read(office, 0, full.toString()), 1);
            Due.is("lists", office.grade(0, 1, 0), 6);
            Due.is("good", office.judge(0), -1);
        }
        for (int turn = 0; turn < 3; turn++) {
            Due.is("a small one", Due.read(office, 0, "grade 1{list x=m;must x=1;must own=2;must 0;}"), 1);
            Due.is("lists", office.grade(0, 1, 0), 1);
            Due.is("parts", office.grade(0, 1, 1), 0);
            Due.is("musts", office.grade(0, 1, 2), 3);
            Due.is("minutes", office.grade(0, 1, 3), 10);
            Due.is("its pieces alone", office.judge(0), 2);
        }
    }

    private static void textsAreExchanged() {
        ExamTour office = new ExamTour();
        for (int turn = 0; turn < 3; turn++) {
            for (int term = 0; term < 4; term++) {
                int minutes = 1 + 10 * turn + term;
                Due.is("syllabus", Due.read(office, term, "grade 2{minutes " + minutes + ";}"), 1);
                Due.is("a fault", Due.read(office, term, "grade 2{minutes 77;} grade 2"), -1);
                Due.is("its text stays", office.grade(term, 2, 3), minutes);
                Due.is("its grades stay", office.about(10 + term), 1);
            }
            for (int term = 0; term < 4; term++) {
                Due.is("each term's own", office.grade(term, 2, 3), 1 + 10 * turn + term);
            }
        }
        Due.is("another", Due.read(office, 1, "grade 3{}"), 1);
        Due.is("nothing of the old one", office.grade(1, 2, 3), -1);
        Due.is("the new one", office.grade(1, 3, 3), 10);
    }
}
