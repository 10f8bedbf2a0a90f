import java.nio.charset.StandardCharsets;
import java.util.ArrayList;
import java.util.Arrays;
import java.util.LinkedHashMap;
import java.util.LinkedHashSet;
import java.util.List;
import java.util.Map;
import java.util.Set;
import java.util.TreeMap;
import java.util.function.ToIntFunction;

/**
 * The document once more, written as plainly as the whole Java library allows, without a thought for
 * speed or room: TwinTest holds ExamTour's answers against this one's.
 */
final class PlainOffice {
    static final Set<String> KEPT = Set.of("grade", "list", "part", "minutes", "must", "pass", "merit", "or",
        "and", "not", "own", "pieces", "age", "total", "least");
    static final Set<String> USED = Set.of("own", "pieces", "age", "total", "least");

    /** What an e may ask for: its words' values. */
    record Case(Map<String, Integer> words) {
    }

    record Token(String text, int place) {
        boolean isNumber() {
            return text.matches("[0-9]{1,6}");
        }

        boolean isWord() {
            return text.matches("[a-z][a-z0-9]{0,7}");
        }

        boolean isName() {
            return isWord() && !KEPT.contains(text);
        }
    }

    static final class Fault extends Exception {
        private static final long serialVersionUID = 1L;
        final int what;
        final int place;

        Fault(int what, int place) {
            this.what = what;
            this.place = place;
        }
    }

    static final class GradeText {
        final Map<String, Set<String>> lists = new LinkedHashMap<>();
        final Map<String, Integer> parts = new LinkedHashMap<>();
        final List<ToIntFunction<Case>> musts = new ArrayList<>();
        Integer minutes;
        ToIntFunction<Case> pass;
        ToIntFunction<Case> merit;
    }

    static final class Candidacy {
        int candidate;
        int term;
        int grade;
        int instrument;
        int age;
        int teacher;
        int session = -1;
        final Set<String> pieces = new LinkedHashSet<>();
    }

    record Told(int entry, int by, int part, int marks, int day, int[] untold) {
        boolean known(int k) {
            return day <= k && (untold[0] == NEVER || untold[0] > k);
        }
    }

    record Given(int entry, int day, int result) {
    }

    static final int NEVER = Integer.MAX_VALUE;
    static final int BOARD = 77;

    String tape = "";
    int fault = 0;
    int place = -1;
    final Map<Integer, Map<Integer, GradeText>> texts = new TreeMap<>();
    final List<Candidacy> entries = new ArrayList<>();
    int centres = 0;
    final int[][] ways = new int[8][8];
    final List<int[]> examiners = new ArrayList<>();
    final List<int[]> sessions = new ArrayList<>();
    int[] toured = {};
    int day = 0;
    final List<Told> marks = new ArrayList<>();
    final List<Given> certificates = new ArrayList<>();

    int feed(int... five) {
        if (tape.length() + 20 > 1400) {
            return -1;
        }
        for (int n : five) {
            for (int i = 3; i >= 0; i--) {
                tape += (char) (n >>> 8 * i & 255);
            }
        }
        return tape.length();
    }

    int end(int n) {
        if (n < 0 || n > tape.length()) {
            return -1;
        }
        tape = tape.substring(0, n);
        return n;
    }

    int syllabus(int term) {
        if (term < 0 || term > 3) {
            return -2;
        }
        String text = tape;
        tape = "";
        try {
            Map<Integer, GradeText> read = new PlainReader(text).read();
            texts.put(term, read);
            fault = 0;
            place = -1;
            return read.size();
        } catch (Fault f) {
            fault = f.what;
            place = f.place;
            return -1;
        }
    }

    int fault(int what) {
        return what == 0 ? fault : what == 1 ? place : -1;
    }

    GradeText find(int term, int grade) {
        return texts.getOrDefault(term, Map.of()).get(grade);
    }

    int grade(int term, int grade, int what) {
        GradeText g = find(term, grade);
        if (g == null) {
            return -1;
        }
        List<Integer> most = new ArrayList<>(g.parts.values());
        List<Integer> all = List.of(g.lists.size(), most.size(), g.musts.size(), minutes(term, grade));
        if (what >= 0 && what < 4) {
            return all.get(what);
        }
        return what >= 10 && what < 10 + most.size() ? most.get(what - 10) : -1;
    }

    int minutes(int term, int grade) {
        GradeText g = find(term, grade);
        return g == null || g.minutes == null ? 10 : g.minutes;
    }

    int entry(int candidate, int term, int grade, int instrument, int age, int teacher) {
        if (candidate < 0 || candidate > 99 || term < 0 || term > 3 || grade < 1 || grade > 8 || instrument < 0
            || instrument > 7 || age < 4 || age > 99 || teacher < -1 || teacher >= examiners.size()
            || entries.size() == 40) {
            return -1;
        }
        Candidacy c = new Candidacy();
        c.candidate = candidate;
        c.term = term;
        c.grade = grade;
        c.instrument = instrument;
        c.age = age;
        c.teacher = teacher;
        entries.add(c);
        return entries.size() - 1;
    }

    boolean isEntry(int e) {
        return e >= 0 && e < entries.size();
    }

    int piece(int e, long name) {
        byte[] bytes = new byte[8];
        for (int i = 0; i < 8; i++) {
            bytes[i] = (byte) (name >>> 56 - 8 * i);
        }
        String word = new String(bytes, StandardCharsets.ISO_8859_1).replaceFirst("^\0*", "");
        if (!isEntry(e) || !word.matches("[a-z][a-z0-9]*") || word.endsWith("\n")
            || entries.get(e).pieces.size() == 4 || !entries.get(e).pieces.add(word)) {
            return -1;
        }
        return entries.get(e).pieces.size();
    }

    int judge(int e) {
        if (!isEntry(e)) {
            return -3;
        }
        Candidacy c = entries.get(e);
        GradeText g = find(c.term, c.grade);
        if (g == null) {
            return -2;
        }
        Map<String, Integer> words = new TreeMap<>();
        g.lists.forEach((name, pieces) ->
            words.put(name, (int) c.pieces.stream().filter(pieces::contains).count()));
        words.put("own", (int) c.pieces.stream()
            .filter(p -> g.lists.values().stream().noneMatch(l -> l.contains(p))).count());
        words.put("pieces", c.pieces.size());
        words.put("age", c.age);
        for (int i = 0; i < g.musts.size(); i++) {
            if (g.musts.get(i).applyAsInt(new Case(words)) == 0) {
                return i;
            }
        }
        return -1;
    }

    int centre() {
        return centres == 8 ? -1 : centres++;
    }

    boolean isCentre(int c) {
        return c >= 0 && c < centres;
    }

    boolean way(int a, int b, int minutes) {
        if (!isCentre(a) || !isCentre(b) || a == b || minutes < 0 || minutes > 600) {
            return false;
        }
        ways[a][b] = minutes;
        ways[b][a] = minutes;
        return true;
    }

    int examiner(int home, int instruments) {
        if (!isCentre(home) || instruments < 0 || instruments > 255 || examiners.size() == 5) {
            return -1;
        }
        examiners.add(new int[] {home, instruments});
        return examiners.size() - 1;
    }

    int session(int centre, int onDay) {
        if (!isCentre(centre) || onDay < 0 || onDay > 99 || sessions.size() == 9) {
            return -1;
        }
        sessions.add(new int[] {centre, onDay});
        return sessions.size() - 1;
    }

    boolean isSession(int s) {
        return s >= 0 && s < sessions.size();
    }

    boolean put(int e, int s) {
        if (!isEntry(e) || s != -1 && !isSession(s)) {
            return false;
        }
        int old = entries.get(e).session;
        entries.get(e).session = s;
        if (s != -1 && of(s, 3) > 300) {
            entries.get(e).session = old;
            return false;
        }
        return true;
    }

    int of(int s, int what) {
        if (!isSession(s) || what < 0 || what > 3) {
            return -1;
        }
        if (what < 2) {
            return sessions.get(s)[what];
        }
        return entries.stream().filter(c -> c.session == s)
            .mapToInt(c -> what == 2 ? 1 : minutes(c.term, c.grade)).sum();
    }

    int may(int x, int s) {
        if (x < 0 || x >= examiners.size() || !isSession(s)) {
            return -1;
        }
        for (int e = 0; e < entries.size(); e++) {
            Candidacy c = entries.get(e);
            int entry = e;
            boolean heard = marks.stream().anyMatch(m -> m.by == x && m.untold[0] == NEVER && m.entry != entry
                && entries.get(m.entry).candidate == c.candidate);
            if (c.session == s && ((examiners.get(x)[1] & 1 << c.instrument) == 0 || c.teacher == x || heard)) {
                return 0;
            }
        }
        return 1;
    }

    int tour() {
        int[] given = new int[sessions.size()];
        int[] best = {Integer.MAX_VALUE};
        boolean[][] allowed = new boolean[sessions.size()][examiners.size()];
        for (int s = 0; s < sessions.size(); s++) {
            for (int x = 0; x < examiners.size(); x++) {
                allowed[s][x] = may(x, s) == 1;
            }
        }
        give(0, given, allowed, best);
        return best[0] == Integer.MAX_VALUE ? -2 : best[0];
    }

    private void give(int s, int[] given, boolean[][] allowed, int[] best) {
        if (s == given.length) {
            int travel = 0;
            for (int x = 0; x < examiners.size(); x++) {
                travel += travel(x, given);
            }
            if (travel < best[0]) {
                best[0] = travel;
                toured = given.clone();
            }
            return;
        }
        for (int x = 0; x < examiners.size(); x++) {
            boolean free = allowed[s][x];
            for (int t = 0; t < s; t++) {
                free &= given[t] != x || sessions.get(t)[1] != sessions.get(s)[1];
            }
            if (free) {
                given[s] = x;
                give(s + 1, given, allowed, best);
            }
        }
    }

    private int travel(int x, int[] given) {
        TreeMap<Integer, Integer> places = new TreeMap<>();
        for (int s = 0; s < given.length; s++) {
            if (given[s] == x) {
                places.put(sessions.get(s)[1], sessions.get(s)[0]);
            }
        }
        int home = examiners.get(x)[0];
        int at = home;
        int sum = 0;
        for (Map.Entry<Integer, Integer> e : places.entrySet()) {
            if (!places.containsKey(e.getKey() - 1)) {
                sum += ways[at][home];
                at = home;
            }
            sum += ways[at][e.getValue()];
            at = e.getValue();
        }
        return sum + ways[at][home];
    }

    int toured(int s) {
        return s >= 0 && s < toured.length ? toured[s] : -1;
    }

    int stuck() {
        for (int s = 0; s < sessions.size(); s++) {
            boolean any = false;
            for (int x = 0; x < examiners.size(); x++) {
                any |= may(x, s) == 1;
            }
            if (!any) {
                return s;
            }
        }
        return -1;
    }

    int later(int days) {
        if (days < 0 || days > 1000 || day + days > 100000) {
            return -1;
        }
        return day += days;
    }

    private boolean canMark(int e, int part, int points) {
        if (!isEntry(e)) {
            return false;
        }
        int most = part < 0 || part > 5 ? -1 : grade(entries.get(e).term, entries.get(e).grade, 10 + part);
        return points >= 0 && points <= most && marks.size() < 200;
    }

    int mark(int e, int x, int part, int points) {
        if (x < 0 || x >= examiners.size() || !canMark(e, part, points)) {
            return -1;
        }
        marks.add(new Told(e, x, part, points, day, new int[] {NEVER}));
        return marks.size() - 1;
    }

    int appeal(int e, int part, int points) {
        if (!canMark(e, part, points) || known(e, part, day) == -1) {
            return -1;
        }
        marks.add(new Told(e, BOARD, part, points, day, new int[] {NEVER}));
        return marks.size() - 1;
    }

    boolean untell(int m) {
        if (m < 0 || m >= marks.size() || marks.get(m).untold[0] != NEVER) {
            return false;
        }
        marks.get(m).untold[0] = day;
        return true;
    }

    private int last(int e, int part, int by, int k) {
        return marks.stream().filter(m -> m.entry == e && m.part == part && m.by == by && m.known(k))
            .mapToInt(Told::marks).reduce(-1, (a, b) -> b);
    }

    int known(int e, int part, int k) {
        int board = last(e, part, BOARD, k);
        return board >= 0 ? board : last(e, part, main(e, k), k);
    }

    int main(int e, int k) {
        return marks.stream().filter(m -> m.entry == e && m.by != BOARD && m.known(k)).mapToInt(Told::by)
            .findFirst().orElse(-1);
    }

    int result(int e, int k) {
        if (judge(e) != -1) {
            return -1;
        }
        GradeText g = find(entries.get(e).term, entries.get(e).grade);
        Map<String, Integer> words = new TreeMap<>();
        int part = 0;
        for (String name : g.parts.keySet()) {
            int points = known(e, part++, k);
            if (points < 0) {
                return -1;
            }
            words.put(name, points);
        }
        int total = words.values().stream().mapToInt(n -> n).sum();
        int least = words.values().stream().mapToInt(n -> n).min().orElse(0);
        words.put("total", total);
        words.put("least", least);
        if (g.pass != null && g.pass.applyAsInt(new Case(words)) == 0) {
            return 0;
        }
        return g.merit != null && g.merit.applyAsInt(new Case(words)) != 0 ? 2 : 1;
    }

    int hardness(int x) {
        List<Integer> gaps = new ArrayList<>();
        for (int e = 0; e < entries.size(); e++) {
            for (int part = 0; part < 6; part++) {
                int own = last(e, part, x, day);
                for (int y = 0; y < examiners.size(); y++) {
                    int other = last(e, part, y, day);
                    if (x >= 0 && x < examiners.size() && x != y && own >= 0 && other >= 0) {
                        gaps.add(other - own);
                    }
                }
            }
        }
        int[] row = gaps.stream().mapToInt(n -> n).sorted().toArray();
        return row.length == 0 ? -1000 : row.length % 2 == 1 ? row[row.length / 2] : row[row.length / 2 - 1];
    }

    int certify(int e) {
        int result = result(e, day);
        if (result < 1 || certificates.size() == 60) {
            return -1;
        }
        for (int n = 1; n <= certificates.size(); n++) {
            if (certificates.get(n - 1).entry == e && holds(n, day) == 1) {
                return -1;
            }
        }
        certificates.add(new Given(e, day, result));
        return certificates.size();
    }

    int certificate(int n, int what) {
        if (n < 1 || n > certificates.size() || what < 0 || what > 2) {
            return -1;
        }
        Given g = certificates.get(n - 1);
        return List.of(g.entry, g.day, g.result).get(what);
    }

    int holds(int n, int k) {
        if (n < 1 || n > certificates.size()) {
            return -1;
        }
        Given g = certificates.get(n - 1);
        return k >= g.day && result(g.entry, k) >= g.result ? 1 : 0;
    }

    int about(int what) {
        List<Integer> all = Arrays.asList(day, entries.size(), centres, examiners.size(), sessions.size(),
            marks.size(), certificates.size(), tape.length());
        if (what >= 0 && what < 8) {
            return all.get(what);
        }
        return what >= 10 && what < 14 ? texts.getOrDefault(what - 10, Map.of()).size() : -1;
    }
}
