import java.lang.reflect.Method;
import java.lang.reflect.Modifier;
import java.nio.charset.StandardCharsets;
import java.util.ArrayList;
import java.util.Arrays;
import java.util.HashMap;
import java.util.List;
import java.util.Map;

/**
 * A run of calls on a new object, for one sentence of the document. Calls are written as texts, such
 * as "piece(0, 'bach')" or "later(max)"; a boolean answer counts 1 or 0.
 */
final class Run {
    private static final int MOST_CALLS = 512;
    private static final Map<String, Method> METHODS = methods(ExamTour.class);
    private static final Map<String, Method> TWINS = methods(PlainOffice.class);

    private final String sentence;
    private final ExamTour office = new ExamTour();
    private final PlainOffice twin;
    private final List<String> calls = new ArrayList<>();

    Run(String sentence) {
        this(sentence, null);
    }

    /** Each answer must also be the one that the twin (or none, if it is null) gives. */
    Run(String sentence, PlainOffice twin) {
        this.sentence = sentence;
        this.twin = twin;
    }

    private static Map<String, Method> methods(Class<?> type) {
        Map<String, Method> all = new HashMap<>();
        for (Method m : type.getDeclaredMethods()) {
            if (!Modifier.isPrivate(m.getModifiers())) {
                all.put(m.getName(), m);
            }
        }
        return all;
    }

    private static String label(String sentence, String call) {
        return "'" + sentence + "': " + call;
    }

    private static long ask(ExamTour office, String call) {
        return ask(METHODS.get(nameOf(call)), office, call);
    }

    private static String nameOf(String call) {
        return call.substring(0, call.indexOf('('));
    }

    private static long ask(Method m, Object one, String call) {
        String inside = call.substring(call.indexOf('(') + 1, call.lastIndexOf(')')).trim();
        String[] told = inside.isEmpty() ? new String[0] : inside.split(", *");
        try {
            Object got = m.invoke(one, m.isVarArgs() ? new Object[] {ints(told)} : values(m, told));
            return got instanceof Boolean b ? (b ? 1 : 0) : (Integer) got;
        } catch (ReflectiveOperationException e) {
            throw new IllegalStateException(call, e);
        }
    }

    private static int[] ints(String[] told) {
        int[] all = new int[told.length];
        for (int i = 0; i < told.length; i++) {
            all[i] = Math.toIntExact(number(told[i]));
        }
        return all;
    }

    private static Object[] values(Method m, String[] told) {
        Object[] all = new Object[told.length];
        for (int i = 0; i < told.length; i++) {
            long value = number(told[i]);
            if (m.getParameterTypes()[i] == int.class) {
                all[i] = Math.toIntExact(value);
            } else {
                all[i] = value;
            }
        }
        return all;
    }

    private static long number(String told) {
        if (told.startsWith("'")) {
            return Due.name(told.substring(1, told.length() - 1));
        }
        return switch (told) {
            case "min" -> Integer.MIN_VALUE;
            case "max" -> Integer.MAX_VALUE;
            default -> Long.decode(told);
        };
    }

    private long answer(String call) {
        calls.add(call);
        if (calls.size() > MOST_CALLS) {
            Due.is(label(sentence, "calls of this run"), calls.size(), MOST_CALLS);
        }
        long got = ask(office, call);
        if (twin != null) {
            Due.is(label(sentence, call), got, ask(TWINS.get(nameOf(call)), twin, call));
        }
        return got;
    }

    /** Calls whose answers another run looks at. */
    Run call(String... more) {
        for (String call : more) {
            answer(call);
        }
        return this;
    }

    Run due(String call, long want) {
        Due.is(label(sentence, call), answer(call), want);
        return this;
    }

    /** The call n times, a # in it being 0, 1 and on, answered by first, first + step and on. */
    Run dueTimes(int n, String call, long first, long step) {
        for (int i = 0; i < n; i++) {
            due(call.replace("#", "" + i), first + i * step);
        }
        return this;
    }

    /** The call, which must be answered so and do nothing. */
    Run refused(String call, long want) {
        List<String> before = new ArrayList<>(calls);
        due(call, want);
        isAlike(call, before, new ArrayList<>(calls));
        return this;
    }

    /** One call for each of the values, put in for a #, all of them refused. */
    Run refusedEach(String call, long want, String... values) {
        for (String value : values) {
            refused(call.replace("#", value), want);
        }
        return this;
    }

    /** Puts a text behind what is on the tape. */
    Run text(String text) {
        byte[] bytes = text.getBytes(StandardCharsets.ISO_8859_1);
        long before = answer("about(7)");
        for (int i = 0; i < bytes.length; i += 20) {
            int[] n = Due.five(Arrays.copyOfRange(bytes, i, i + 20));
            call("feed(" + n[0] + ", " + n[1] + ", " + n[2] + ", " + n[3] + ", " + n[4] + ")");
        }
        return due("end(" + (before + bytes.length) + ")", before + bytes.length);
    }

    Run read(int term, String text, int grades) {
        return text(text).due("syllabus(" + term + ")", grades);
    }

    int left() {
        return MOST_CALLS - calls.size();
    }

    /** New objects with both histories answer all questions alike, each within its 512 calls. */
    private void isAlike(String call, List<String> one, List<String> other) {
        for (List<String> group : questions(one)) {
            int room = Math.max(1, MOST_CALLS - other.size());
            for (int i = 0; i < group.size(); i += room) {
                List<String> part = group.subList(i, Math.min(group.size(), i + room));
                List<Long> was = replay(one, part);
                List<Long> is = replay(other, part);
                for (int k = 0; k < part.size(); k++) {
                    Due.is(label(sentence, call + " did something: " + part.get(k)), is.get(k), was.get(k));
                }
            }
        }
    }

    private static List<Long> replay(List<String> history, List<String> questions) {
        ExamTour again = new ExamTour();
        for (String call : history) {
            ask(again, call);
        }
        List<Long> answers = new ArrayList<>();
        for (String question : questions) {
            answers.add(ask(again, question));
        }
        return answers;
    }

    /** Groups of questions about all there is; those that change something have groups of their own. */
    private static List<List<String>> questions(List<String> history) {
        int[] counts = new int[14];
        for (int what = 0; what < counts.length; what++) {
            counts[what] = replay(history, List.of("about(" + what + ")")).get(0).intValue();
        }
        List<String> plain = new ArrayList<>();
        askTexts(plain, counts);
        askTours(plain, counts[4], counts[3]);
        askMarks(plain, counts);
        List<String> tape = List.of("syllabus(0)", "fault(0)", "fault(1)", "about(10)", "grade(0, 1, 3)");
        List<String> tour = each(9, "toured(#)");
        tour.add(0, "tour()");
        return List.of(plain, tape, tour, each(counts[1], "piece(#, 'zzzzzz99')"), each(counts[5], "untell(#)"));
    }

    private static List<String> each(int n, String call) {
        List<String> all = new ArrayList<>();
        for (int i = 0; i < n; i++) {
            all.add(call.replace("#", "" + i));
        }
        return all;
    }

    private static void askTexts(List<String> all, int[] counts) {
        all.addAll(each(14, "about(#)"));
        all.addAll(each(2, "fault(#)"));
        for (int term = 0; term < 4; term++) {
            for (int grade = 1; grade <= 8 && counts[10 + term] > 0; grade++) {
                all.addAll(each(16, "grade(" + term + ", " + grade + ", #)"));
            }
        }
        all.addAll(each(counts[1], "judge(#)"));
    }

    private static void askTours(List<String> all, int sessions, int examiners) {
        all.add("stuck()");
        all.addAll(each(sessions, "toured(#)"));
        for (int what = 0; what < 4; what++) {
            all.addAll(each(sessions, "of(#, " + what + ")"));
        }
        for (int examiner = 0; examiner < examiners; examiner++) {
            all.addAll(each(sessions, "may(" + examiner + ", #)"));
        }
    }

    private static void askMarks(List<String> all, int[] counts) {
        for (int day : new int[] {0, counts[0]}) {
            all.addAll(each(counts[1], "main(#, " + day + ")"));
            all.addAll(each(counts[1], "result(#, " + day + ")"));
            all.addAll(each(counts[1], "known(#, 0, " + day + ")"));
            all.addAll(each(counts[1], "known(#, 1, " + day + ")"));
            all.addAll(each(counts[6] + 1, "holds(#, " + day + ")"));
        }
        for (int what = 0; what < 3; what++) {
            all.addAll(each(counts[6] + 1, "certificate(#, " + what + ")"));
        }
        all.addAll(each(counts[3], "hardness(#)"));
    }
}
