import java.util.ArrayList;
import java.util.LinkedHashSet;
import java.util.List;
import java.util.Map;
import java.util.Set;
import java.util.TreeMap;
import java.util.function.ToIntFunction;
import java.util.regex.Matcher;
import java.util.regex.Pattern;

/** Reads a text for PlainOffice: all tokens first, then the grammar, leaving at the first fault. */
final class PlainReader {
    private static final Pattern PIECE = Pattern.compile("[a-z][a-z0-9]*|[0-9]+[a-z]?|[^ \n]");
    private final List<PlainOffice.Token> tokens = new ArrayList<>();
    private final Map<Integer, PlainOffice.GradeText> grades = new TreeMap<>();
    private PlainOffice.GradeText grade;
    private boolean must;
    private int at = 0;
    private int leaves = 0;

    PlainReader(String text) {
        Matcher m = PIECE.matcher(text);
        while (m.find()) {
            tokens.add(new PlainOffice.Token(m.group(), m.start()));
        }
        tokens.add(new PlainOffice.Token("", text.length()));
    }

    Map<Integer, PlainOffice.GradeText> read() throws PlainOffice.Fault {
        while (!sees("")) {
            sign("grade");
            int place = now().place();
            int n = number(1, 8);
            if (grades.containsKey(n)) {
                throw new PlainOffice.Fault(3, place);
            }
            grade = new PlainOffice.GradeText();
            grades.put(n, grade);
            sign("{");
            while (!sees("}")) {
                item();
            }
            at++;
        }
        return grades;
    }

    private PlainOffice.Token now() {
        return tokens.get(at);
    }

    private boolean sees(String text) {
        return now().text().equals(text);
    }

    private boolean isToken(PlainOffice.Token t) {
        return t.text().isEmpty() || t.isWord() || t.isNumber() || t.text().matches("[{}()=,;<>+-]");
    }

    private PlainOffice.Fault wrong() {
        return new PlainOffice.Fault(isToken(now()) ? 2 : 1, now().place());
    }

    private void need(boolean can) throws PlainOffice.Fault {
        if (!can) {
            throw wrong();
        }
    }

    private void sign(String text) throws PlainOffice.Fault {
        need(sees(text));
        at++;
    }

    private int number(int least, int most) throws PlainOffice.Fault {
        need(now().isNumber());
        int n = Integer.parseInt(now().text());
        if (n < least || n > most) {
            throw new PlainOffice.Fault(5, now().place());
        }
        at++;
        return n;
    }

    private String name(Set<String> told) throws PlainOffice.Fault {
        need(now().isName());
        if (told.contains(now().text())) {
            throw new PlainOffice.Fault(3, now().place());
        }
        return tokens.get(at++).text();
    }

    private Set<String> namesTold() {
        Set<String> all = new LinkedHashSet<>(grade.lists.keySet());
        all.addAll(grade.parts.keySet());
        return all;
    }

    private void item() throws PlainOffice.Fault {
        String word = now().text();
        boolean can = switch (word) {
            case "list" -> grade.lists.size() < 6;
            case "part" -> grade.parts.size() < 6;
            case "minutes" -> grade.minutes == null;
            case "must" -> grade.musts.size() < 8;
            case "pass" -> grade.pass == null;
            case "merit" -> grade.merit == null;
            default -> false;
        };
        need(can);
        at++;
        must = word.equals("must");
        switch (word) {
            case "list" -> list();
            case "part" -> {
                String name = name(namesTold());
                grade.parts.put(name, number(1, 200));
            }
            case "minutes" -> grade.minutes = number(1, 120);
            case "must" -> grade.musts.add(e(0));
            case "pass" -> grade.pass = e(0);
            default -> grade.merit = e(0);
        }
        sign(";");
    }

    private void list() throws PlainOffice.Fault {
        String name = name(namesTold());
        sign("=");
        Set<String> pieces = new LinkedHashSet<>();
        grade.lists.put(name, pieces);
        pieces.add(name(pieces));
        while (sees(",")) {
            at++;
            need(pieces.size() < 12);
            pieces.add(name(pieces));
        }
    }

    private ToIntFunction<PlainOffice.Case> e(int around) throws PlainOffice.Fault {
        need(around < 8);
        ToIntFunction<PlainOffice.Case> left = both(around);
        while (sees("or")) {
            at++;
            ToIntFunction<PlainOffice.Case> l = left;
            ToIntFunction<PlainOffice.Case> r = both(around);
            left = c -> l.applyAsInt(c) != 0 | r.applyAsInt(c) != 0 ? 1 : 0;
        }
        return left;
    }

    private ToIntFunction<PlainOffice.Case> both(int around) throws PlainOffice.Fault {
        ToIntFunction<PlainOffice.Case> left = one(around);
        while (sees("and")) {
            at++;
            ToIntFunction<PlainOffice.Case> l = left;
            ToIntFunction<PlainOffice.Case> r = one(around);
            left = c -> l.applyAsInt(c) != 0 & r.applyAsInt(c) != 0 ? 1 : 0;
        }
        return left;
    }

    private ToIntFunction<PlainOffice.Case> one(int around) throws PlainOffice.Fault {
        need(around < 8);
        if (sees("not")) {
            at++;
            ToIntFunction<PlainOffice.Case> inner = one(around + 1);
            return c -> inner.applyAsInt(c) == 0 ? 1 : 0;
        }
        ToIntFunction<PlainOffice.Case> l = sum(around);
        if (!sees("<") && !sees(">") && !sees("=")) {
            return l;
        }
        char sign = tokens.get(at++).text().charAt(0);
        ToIntFunction<PlainOffice.Case> r = sum(around);
        return c -> {
            int order = Integer.compare(l.applyAsInt(c), r.applyAsInt(c));
            return order == sign - '=' ? 1 : 0;
        };
    }

    private ToIntFunction<PlainOffice.Case> sum(int around) throws PlainOffice.Fault {
        ToIntFunction<PlainOffice.Case> left = term(around);
        while (sees("+") || sees("-")) {
            int factor = tokens.get(at++).text().equals("+") ? 1 : -1;
            ToIntFunction<PlainOffice.Case> l = left;
            ToIntFunction<PlainOffice.Case> r = term(around);
            left = c -> l.applyAsInt(c) + factor * r.applyAsInt(c);
        }
        return left;
    }

    private ToIntFunction<PlainOffice.Case> term(int around) throws PlainOffice.Fault {
        if (sees("(")) {
            at++;
            ToIntFunction<PlainOffice.Case> inner = e(around + 1);
            sign(")");
            return inner;
        }
        need(now().isNumber() || now().isName() || PlainOffice.USED.contains(now().text()));
        need(leaves < 150);
        leaves++;
        String word = now().text();
        if (now().isNumber()) {
            at++;
            int n = Integer.parseInt(word);
            return c -> n;
        }
        Set<String> meant = new LinkedHashSet<>(must ? grade.lists.keySet() : grade.parts.keySet());
        meant.addAll(must ? Set.of("own", "pieces", "age") : Set.of("total", "least"));
        if (!meant.contains(word)) {
            throw new PlainOffice.Fault(4, now().place());
        }
        at++;
        return c -> c.words().get(word);
    }
}
