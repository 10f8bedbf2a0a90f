/** Promises 7, 8 and 9: entries, their pieces, and how they are judged. */
public final class EntryTest {
    private static final int[] EXTREMES = {Integer.MIN_VALUE, -2, Integer.MAX_VALUE};

    public static void main(String[] args) {
        entry();
        piece();
        judge();
        words();
        sums();
        Due.close();
    }

    private static void entry() {
        ExamTour office = new ExamTour();
        office.centre();
        office.examiner(0, 0);
        office.examiner(0, 255);
        int[] least = {0, 0, 1, 0, 4, -1};
        int[] most = {99, 3, 8, 7, 99, 1};
        Due.is("the least", enter(office, least), 0);
        Due.is("the most", enter(office, most), 1);
        for (int i = 0; i < 6; i++) {
            for (int wrong : new int[] {least[i] - 1, most[i] + 1, EXTREMES[0], EXTREMES[2]}) {
                int[] row = least.clone();
                row[i] = wrong;
                Due.is("entry with number " + i + " of " + wrong, enter(office, row), -1);
            }
        }
        Due.is("entries", office.about(1), 2);
        for (int n = 2; n < 40; n++) {
            Due.is("entry " + n, office.entry(n, 1, 2, 3, 40, 0), n);
        }
        Due.is("a 41st", office.entry(0, 1, 2, 3, 40, 0), -1);
        Due.is("entries", office.about(1), 40);
        ExamTour without = new ExamTour();
        Due.is("a teacher who is none", without.entry(0, 0, 1, 0, 9, 0), -1);
        Due.is("without a teacher", without.entry(0, 0, 1, 0, 9, -1), 0);
    }

    private static int enter(ExamTour office, int[] n) {
        return office.entry(n[0], n[1], n[2], n[3], n[4], n[5]);
    }

    private static void piece() {
        ExamTour office = new ExamTour();
        Due.is("of no entry", office.piece(0, Due.name("a")), -1);
        office.entry(0, 0, 1, 0, 9, -1);
        office.entry(0, 0, 1, 0, 9, -1);
        for (int entry : new int[] {-1, 2, EXTREMES[0], EXTREMES[2]}) {
            Due.is("of entry " + entry, office.piece(entry, Due.name("a")), -1);
        }
        long[] none = {0, 65, 48, Due.name("1a"), Due.name("a_"), Due.name("a "), Due.name("A"),
            Due.name("aB"), Due.name("a") << 8, Due.name("a\0b"), Due.name("\u00e1a"), -1,
            Long.MIN_VALUE, Long.MAX_VALUE, 0x80, Due.name("a{"), Due.name("a`"), Due.name("a/"),
            Due.name("a:"), Due.name("`"), Due.name("{"), Due.name("a") << 56,
            Due.name("abcdefg") << 8, Due.name("1234567a"), Due.name(" a")};
        for (long name : none) {
            Due.is("piece " + Long.toHexString(name), office.piece(0, name), -1);
        }
        Due.is("a", office.piece(0, Due.name("a")), 1);
        Due.is("a again", office.piece(0, Due.name("a")), -1);
        Due.is("z", office.piece(0, Due.name("z")), 2);
        Due.is("abcdefgh", office.piece(0, Due.name("z2345670")), 3);
        Due.is("z again", office.piece(0, Due.name("z")), -1);
        Due.is("no letter", office.piece(0, Due.name("9")), -1);
        Due.is("a9", office.piece(0, Due.name("a9")), 4);
        Due.is("a fifth", office.piece(0, Due.name("b")), -1);
        Due.is("one that is there already", office.piece(0, Due.name("a")), -1);
        // Each entry has its own; words that are no names are pieces too.
        Due.is("a of another", office.piece(1, Due.name("a")), 1);
        Due.is("grade", office.piece(1, Due.name("grade")), 2);
        Due.is("own", office.piece(1, Due.name("own")), 3);
        Due.is("minutes", office.piece(1, Due.name("minutes")), 4);
    }

    private static void judge() {
        ExamTour office = new ExamTour();
        Due.is("none", office.judge(0), -3);
        office.entry(0, 1, 2, 0, 9, -1);
        Due.is("no text", office.judge(0), -2);
        Due.read(office, 0, "grade 2{}");
        Due.is("another term's text", office.judge(0), -2);
        Due.read(office, 1, "grade 1{}grade 3{}");
        Due.is("another grade", office.judge(0), -2);
        Due.read(office, 1, "grade 2{}");
        Due.is("no musts", office.judge(0), -1);
        Due.read(office, 1, "grade 2{must 1;must 7;must 0;must 0;must 1;}");
        Due.is("the first that is 0", office.judge(0), 2);
        Due.read(office, 1, "grade 2{must 0-1;must 5;}");
        Due.is("below 0 is not 0", office.judge(0), -1);
        Due.read(office, 1, "grade 2{must 1;must 1;must 1;must 1;must 1;must 1;must 1;must 0;}");
        Due.is("the eighth", office.judge(0), 7);
        for (int entry : new int[] {-1, 1, EXTREMES[0], EXTREMES[2]}) {
            Due.is("judge(" + entry + ")", office.judge(entry), -3);
        }
    }

    /** What the words of a must mean. */
    private static void words() {
        ExamTour office = new ExamTour();
        Due.read(office, 0, "grade 1{list a=x,y;must a=2;must own=1;must pieces=3;must age=9;"
            + "list b=y,z;must b=2;}");
        office.entry(0, 0, 1, 0, 9, -1);
        Due.is("a = 0", office.judge(0), 0);
        office.piece(0, Due.name("x"));
        office.piece(0, Due.name("y"));
        Due.is("a = 2, own = 0", office.judge(0), 1);
        office.piece(0, Due.name("z"));
        Due.is("z is in a list told behind", office.judge(0), 1);
        ExamTour other = new ExamTour();
        Due.read(other, 0, "grade 1{list a=x,y;must a=2;must own=1;must pieces=3;must age=9;"
            + "list b=y,z;must b=1;}grade 2{list a=w,z;}");
        other.entry(0, 0, 1, 0, 9, -1);
        other.entry(0, 0, 1, 0, 10, -1);
        for (int entry = 0; entry < 2; entry++) {
            other.piece(entry, Due.name("x"));
            other.piece(entry, Due.name("y"));
            other.piece(entry, Due.name("w"));
        }
        Due.is("all", other.judge(0), -1);
        Due.is("another age", other.judge(1), 3);
        ExamTour own = new ExamTour();
        Due.read(own, 0, "grade 1{list a=x;must own=1;}");
        own.entry(0, 0, 1, 0, 9, -1);
        own.piece(0, Due.name("v"));
        own.piece(0, Due.name("x"));
        Due.is("the first is its own", own.judge(0), -1);
        other.piece(0, Due.name("v"));
        Due.is("two of its own", other.judge(0), 1);
    }

    /** What e's come to, each as a must that has to be 0. */
    private static void sums() {
        sum("1+2-3", 0);
        sum("5-2-3", 0);
        sum("5-(2-3)", 6);
        sum("2+3=5", 1);
        sum("2+3=6", 0);
        sum("2<3", 1);
        sum("3<3", 0);
        sum("3<2", 0);
        sum("0-5<1", 1);
        sum("3>2", 1);
        sum("3>3", 0);
        sum("2>3", 0);
        sum("(3>2)+(2>1)", 2);
        sum("not 0", 1);
        sum("not 5", 0);
        sum("not not 5", 1);
        sum("not 1=2", 1);
        sum("not 0+1", 0);
        sum("(not 0)+1", 2);
        sum("5 and 7", 1);
        sum("5 and 0", 0);
        sum("0 and 5", 0);
        sum("0 and 0", 0);
        sum("5 or 7", 1);
        sum("0 or 7", 1);
        sum("7 or 0", 1);
        sum("0 or 0", 0);
        sum("1 or 0 and 0", 1);
        sum("0 and 0 or 1", 1);
        sum("(1 or 0) and 0", 0);
        sum("0 or 1 and 0 or 0", 0);
        sum("not 0 and 0", 0);
        sum("not (0 and 0)", 1);
        sum("not 0 or 1", 1);
        sum("7", 7);
        sum("(7)", 7);
        sum("0-7", -7);
        sum("499999+500000", 999999);
        sum("1 and 2 and 3", 1);
        sum("(1 and 2 and 0)+5", 5);
    }

    private static void sum(String e, int value) {
        ExamTour office = new ExamTour();
        String n = value < 0 ? "0-" + -value : "" + value;
        Due.is(e + " is taken", Due.read(office, 0, "grade 1{must(" + e + ")=" + n + ";must " + e + ";}"), 1);
        office.entry(0, 0, 1, 0, 9, -1);
        Due.is(e + " is " + value, office.judge(0), value == 0 ? 1 : -1);
    }
}
