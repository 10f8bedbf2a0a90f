import java.nio.charset.StandardCharsets;
import java.util.Arrays;

/** What the tests share: comparing answers, and putting texts on the tape. */
final class Due {
    private static int right = 0;
    private static int wrong = 0;

    private Due() {
    }

    static void is(String call, long got, long want) {
        if (got == want) {
            right++;
        } else {
            wrong++;
            System.out.println(call + " answered " + got + ", due is " + want);
        }
    }

    static void is(String call, boolean got, boolean want) {
        is(call, got ? 1 : 0, want ? 1 : 0);
    }

    static int wrong() {
        return wrong;
    }

    /** The last call of a test. */
    static void close() {
        System.out.println(right + " answers as due, " + wrong + " not");
        if (wrong != 0) {
            System.exit(1);
        }
    }

    static long name(String word) {
        long name = 0;
        for (byte b : word.getBytes(StandardCharsets.ISO_8859_1)) {
            name = name << 8 | b & 255;
        }
        return name;
    }

    /** Puts a text behind what is on the tape; the tape must have room for whole twenties. */
    static void feed(ExamTour office, String text) {
        byte[] bytes = text.getBytes(StandardCharsets.ISO_8859_1);
        int before = office.about(7);
        for (int i = 0; i < bytes.length; i += 20) {
            int[] n = five(Arrays.copyOfRange(bytes, i, i + 20));
            office.feed(n[0], n[1], n[2], n[3], n[4]);
        }
        is("end of a text of " + bytes.length, office.end(before + bytes.length),
            before + bytes.length);
    }

    static int[] five(byte[] twenty) {
        int[] n = new int[5];
        for (int i = 0; i < 20; i++) {
            n[i / 4] = n[i / 4] << 8 | twenty[i] & 255;
        }
        return n;
    }

    static int read(ExamTour office, int term, String text) {
        feed(office, text);
        return office.syllabus(term);
    }

    /** A text that must be taken, with so many grades. */
    static void good(String text, int grades) {
        ExamTour office = new ExamTour();
        is("syllabus of " + text, read(office, 0, text), grades);
        is("fault of " + text, office.fault(0), 0);
        is("place of the fault of " + text, office.fault(1), -1);
        is("grades of " + text, office.about(10), grades);
    }

    /** A text that must be refused; the fault's place is marked by a ^ ahead of it. */
    static void bad(String marked, int fault) {
        int place = marked.indexOf('^');
        String text = marked.substring(0, place) + marked.substring(place + 1);
        ExamTour office = new ExamTour();
        is("syllabus of " + text, read(office, 0, text), -1);
        is("fault of " + text, office.fault(0), fault);
        is("place of the fault of " + text, office.fault(1), place);
        is("grades of " + text, office.about(10), 0);
        is("tape behind " + text, office.about(7), 0);
    }

    static String times(int n, String text) {
        return text.repeat(n);
    }
}
