import java.util.Random;
import java.util.function.IntSupplier;

/** Random runs of up to 512 calls: each answer must be the one that PlainOffice gives. */
public final class TwinTest {
    private static final String[] WORDS = {"a", "b", "c", "d", "solo", "z9"};
    private final Random random;
    private final int run;
    private final ExamTour office = new ExamTour();
    private final PlainOffice plain = new PlainOffice();
    private int call = 0;

    private TwinTest(int run) {
        this.run = run;
        random = new Random(run);
    }

    public static void main(String[] args) {
        for (int run = 0; run < 400 && Due.wrong() == 0; run++) {
            new TwinTest(run).go();
        }
        for (int run = 0; run < 6000 && Due.wrong() == 0; run++) {
            new TwinTest(run).texts();
        }
        Due.close();
    }

    private void same(String what, IntSupplier one, IntSupplier other) {
        call++;
        Due.is("run " + run + ", call " + call + ": " + what, one.getAsInt(), other.getAsInt());
    }

    private int upTo(int most) {
        return random.nextInt(most + 1);
    }

    /** A number of a small range, seldom one a little outside it, still less often any int. */
    private int near(int least, int most) {
        int sort = random.nextInt(60);
        if (sort == 0) {
            return random.nextInt();
        }
        if (sort <= 3) {
            return random.nextBoolean() ? least - 1 : most + 1;
        }
        return least + random.nextInt(Math.max(1, most - least + 1));
    }

    private void go() {
        if (random.nextInt(4) != 0) {
            setUp();
        }
        for (int i = 0; i < 120; i++) {
            any();
        }
    }

    private void texts() {
        read(0);
        for (int grade = 1; grade <= 8; grade++) {
            for (int what = 0; what < 17; what++) {
                int g = grade;
                int w = what;
                same("grade", () -> office.grade(0, g, w), () -> plain.grade(0, g, w));
            }
        }
        for (int i = 0; i < 3; i++) {
            entry();
            piece();
            piece();
        }
        for (int i = 0; i < 3; i++) {
            int e = i;
            same("judge", () -> office.judge(e), () -> plain.judge(e));
            same("result", () -> office.result(e, 0), () -> plain.result(e, 0));
        }
    }

    private void setUp() {
        for (int i = 0; i < 4; i++) {
            read(upTo(1));
        }
        int centres = 1 + upTo(4);
        for (int i = 0; i < centres; i++) {
            same("centre", office::centre, plain::centre);
        }
        for (int i = 0; i < 8; i++) {
            way();
        }
        int examiners = 1 + upTo(3);
        for (int i = 0; i < examiners; i++) {
            examiner();
        }
        for (int i = 0; i < 6; i++) {
            entry();
            piece();
        }
        for (int i = 0; i < 3; i++) {
            session();
        }
    }

    private void any() {
        switch (random.nextInt(30)) {
            case 0 -> read(near(0, 3));
            case 1 -> entry();
            case 2 -> piece();
            case 3 -> way();
            case 4 -> examiner();
            case 5 -> session();
            case 6, 7 -> put();
            case 8 -> same("tour", office::tour, plain::tour);
            case 9 -> same("stuck", office::stuck, plain::stuck);
            case 10 -> later();
            case 11, 12, 13, 14, 15, 16 -> mark();
            case 17 -> appeal();
            case 18 -> untell();
            case 19, 20 -> known();
            case 21, 22 -> result();
            case 23 -> hardness();
            case 24 -> certify();
            case 25 -> holds();
            case 26 -> may();
            case 27 -> all();
            case 28 -> same("centre", office::centre, plain::centre);
            default -> judge();
        }
    }

    private void entry() {
        int[] n = {near(0, 5), near(0, 1), near(1, 3), near(0, 2), near(4, 20), near(-1, plain.examiners.size() - 1)};
        same("entry", () -> office.entry(n[0], n[1], n[2], n[3], n[4], n[5]),
            () -> plain.entry(n[0], n[1], n[2], n[3], n[4], n[5]));
    }

    private int anyEntry() {
        return near(0, plain.entries.size() - 1);
    }

    private int anyDay() {
        return near(0, plain.day);
    }

    private void piece() {
        int entry = anyEntry();
        long name = random.nextInt(20) == 0 ? random.nextLong() : Due.name(WORDS[upTo(5)]);
        same("piece", () -> office.piece(entry, name), () -> plain.piece(entry, name));
    }

    private void judge() {
        int entry = anyEntry();
        same("judge", () -> office.judge(entry), () -> plain.judge(entry));
    }

    private void way() {
        int a = near(0, plain.centres - 1);
        int b = near(0, plain.centres - 1);
        int minutes = near(0, random.nextBoolean() ? 5 : 600);
        same("way", () -> office.way(a, b, minutes) ? 1 : 0, () -> plain.way(a, b, minutes) ? 1 : 0);
    }

    private void examiner() {
        int home = near(0, plain.centres - 1);
        int instruments = random.nextBoolean() ? near(0, 255) : 255;
        same("examiner", () -> office.examiner(home, instruments), () -> plain.examiner(home, instruments));
    }

    private void session() {
        int centre = near(0, plain.centres - 1);
        int day = near(0, random.nextBoolean() ? 3 : 99);
        // The plain way tries all tours, which takes long for many sessions.
        if (plain.sessions.size() < 6 || random.nextInt(20) == 0) {
            same("session", () -> office.session(centre, day), () -> plain.session(centre, day));
        }
    }

    private void put() {
        int entry = anyEntry();
        int session = near(-1, plain.sessions.size() - 1);
        same("put", () -> office.put(entry, session) ? 1 : 0, () -> plain.put(entry, session) ? 1 : 0);
    }

    private void may() {
        int examiner = near(0, plain.examiners.size() - 1);
        int session = near(0, plain.sessions.size() - 1);
        same("may", () -> office.may(examiner, session), () -> plain.may(examiner, session));
    }

    private void later() {
        int days = random.nextInt(10) == 0 ? near(0, 1000) : near(0, 2);
        same("later", () -> office.later(days), () -> plain.later(days));
    }

    private void mark() {
        int entry = anyEntry();
        int examiner = near(0, plain.examiners.size() - 1);
        int part = near(0, 2);
        int marks = near(0, 12);
        same("mark", () -> office.mark(entry, examiner, part, marks),
            () -> plain.mark(entry, examiner, part, marks));
    }

    private void appeal() {
        int entry = anyEntry();
        int part = near(0, 2);
        int marks = near(0, 12);
        same("appeal", () -> office.appeal(entry, part, marks), () -> plain.appeal(entry, part, marks));
    }

    private void untell() {
        int mark = near(0, plain.marks.size() - 1);
        same("untell", () -> office.untell(mark) ? 1 : 0, () -> plain.untell(mark) ? 1 : 0);
    }

    private void known() {
        int entry = anyEntry();
        int part = near(0, 2);
        int day = anyDay();
        same("known", () -> office.known(entry, part, day), () -> plain.known(entry, part, day));
        same("main", () -> office.main(entry, day), () -> plain.main(entry, day));
    }

    private void result() {
        int entry = anyEntry();
        int day = anyDay();
        same("result", () -> office.result(entry, day), () -> plain.result(entry, day));
    }

    private void hardness() {
        int examiner = near(0, plain.examiners.size() - 1);
        same("hardness", () -> office.hardness(examiner), () -> plain.hardness(examiner));
    }

    private void certify() {
        int entry = anyEntry();
        same("certify", () -> office.certify(entry), () -> plain.certify(entry));
    }

    private void holds() {
        int number = near(1, plain.certificates.size());
        int day = anyDay();
        int what = near(0, 2);
        same("holds", () -> office.holds(number, day), () -> plain.holds(number, day));
        same("certificate", () -> office.certificate(number, what), () -> plain.certificate(number, what));
    }

    private void all() {
        for (int what = -1; what < 15; what++) {
            int w = what;
            same("about " + w, () -> office.about(w), () -> plain.about(w));
        }
        for (int session = 0; session < plain.sessions.size(); session++) {
            int s = session;
            int what = near(0, 3);
            same("toured", () -> office.toured(s), () -> plain.toured(s));
            same("of", () -> office.of(s, what), () -> plain.of(s, what));
        }
    }

    private void read(int term) {
        String text = text();
        byte[] bytes = text.getBytes(java.nio.charset.StandardCharsets.ISO_8859_1);
        for (int i = 0; i < bytes.length; i += 20) {
            int[] n = Due.five(java.util.Arrays.copyOfRange(bytes, i, i + 20));
            same("feed", () -> office.feed(n[0], n[1], n[2], n[3], n[4]), () -> plain.feed(n));
        }
        int length = random.nextInt(20) == 0 ? near(0, bytes.length) : bytes.length;
        same("end", () -> office.end(length), () -> plain.end(length));
        same("syllabus of " + text, () -> office.syllabus(term), () -> plain.syllabus(term));
        same("fault of " + text, () -> office.fault(0), () -> plain.fault(0));
        same("place in " + text, () -> office.fault(1), () -> plain.fault(1));
    }

    private String text() {
        StringBuilder text = new StringBuilder();
        int grades = upTo(3);
        for (int grade = 1; grade <= grades; grade++) {
            text.append("grade ").append(random.nextInt(30) == 0 ? upTo(9) : grade).append(" {");
            int items = upTo(7);
            for (int i = 0; i < items; i++) {
                item(text);
            }
            text.append("}\n");
        }
        if (random.nextInt(4) == 0) {
            spoil(text);
        }
        text.setLength(Math.min(text.length(), 1380));
        return text.toString();
    }

    private void item(StringBuilder text) {
        switch (random.nextInt(8)) {
            case 0, 1 -> {
                text.append("list l").append(upTo(30)).append(" = ").append(WORDS[0]);
                for (int i = upTo(3); i > 0; i--) {
                    text.append(", ").append(WORDS[i]);
                }
            }
            case 2, 3 -> text.append("part p").append(upTo(30)).append(' ').append(near(1, 15));
            case 4 -> text.append("minutes ").append(near(1, 120));
            case 5 -> {
                text.append("must ");
                e(text, 0, true);
            }
            case 6 -> {
                text.append("pass ");
                e(text, 0, false);
            }
            default -> {
                text.append("merit ");
                e(text, 0, false);
            }
        }
        text.append("; ");
    }

    private void e(StringBuilder text, int depth, boolean must) {
        int sort = random.nextInt(depth > 9 ? 2 : 9);
        if (sort <= 1) {
            leaf(text, must);
        } else if (sort == 2) {
            text.append("not ");
            e(text, depth + 1, must);
        } else if (sort == 3) {
            text.append('(');
            e(text, depth + 1, must);
            text.append(')');
        } else {
            boolean around = sort > 6 && random.nextBoolean();
            text.append(around ? "(" : "");
            e(text, depth + 3, must);
            text.append(new String[] {" and ", " or ", "<", ">", "=", "+", "-", " - "}[random.nextInt(8)]);
            e(text, depth + 3, must);
            text.append(around ? ")" : "");
        }
    }

    private void leaf(StringBuilder text, boolean must) {
        switch (random.nextInt(6)) {
            case 0, 1 -> text.append(upTo(12));
            case 2 -> text.append(must ? "own" : "total");
            case 3 -> text.append(must ? "pieces" : "least");
            case 4 -> text.append(must ? "age" : "total");
            default -> known(text, must ? " l" : " p");
        }
    }

    /** A name that was told somewhere in the text, if there is one. */
    private void known(StringBuilder text, String head) {
        int told = text.lastIndexOf(head);
        if (told < 0) {
            text.append(upTo(9));
            return;
        }
        int behind = told + 1;
        while (behind < text.length() && Character.isLetterOrDigit(text.charAt(behind))) {
            behind++;
        }
        String name = text.substring(told + 1, behind);
        text.append(name.equals("list") || name.equals("part") ? "1" : name);
    }

    private void spoil(StringBuilder text) {
        String bytes = "abz019{}()=,;<>+- \nA?~\u00ff";
        String[] words = {" own ", " not ", " or ", " 1 ", " 1234567 ", " abcdefghi ", " 12x ", "((((((((1", " list "};
        for (int i = upTo(2); i >= 0; i--) {
            int at = upTo(text.length());
            switch (random.nextInt(4)) {
                case 0 -> text.insert(at, bytes.charAt(upTo(bytes.length() - 1)));
                case 1 -> text.insert(at, words[upTo(words.length - 1)]);
                case 2 -> text.delete(at, Math.min(text.length(), at + 1 + upTo(3)));
                default -> text.setLength(at);
            }
        }
    }
}
