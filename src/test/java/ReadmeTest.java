import java.lang.reflect.Method;
import java.lang.reflect.Modifier;
import java.nio.file.Files;
import java.nio.file.Path;
import java.util.HashMap;
import java.util.Map;
import java.util.regex.Matcher;
import java.util.regex.Pattern;

/** README.md's examples are used as they stand there, so that they do not grow old. */
public final class ReadmeTest {
    private static final Pattern BLOCK = Pattern.compile("```(java|text)\n(.*?)```", Pattern.DOTALL);
    private static final Pattern CALL = Pattern.compile(
        "(?:int (\\w+) = )?office\\.(\\w+\\(.*?\\)); +// (-?\\d+|true|false)\\b.*");
    private static final Pattern WORD = Pattern.compile("\\b[a-z]\\w*\\b(?!\\()");

    public static void main(String[] args) throws Exception {
        String readme = Files.readString(Path.of("README.md"));
        Run run = new Run("README.md");
        Map<String, Long> known = new HashMap<>();
        int calls = 0;
        int texts = 0;
        Matcher block = BLOCK.matcher(readme);
        while (block.find()) {
            if (block.group(1).equals("java")) {
                calls += make(run, known, block.group(2));
            } else {
                texts++;
                Due.good(block.group(2), 1);
            }
        }
        Due.is("calls in README.md", calls > 15, true);
        Due.is("texts in README.md", texts, 1);
        namesEachMethod(readme);
        Due.close();
    }

    private static void namesEachMethod(String readme) {
        for (Method m : ExamTour.class.getDeclaredMethods()) {
            boolean told = readme.contains("`" + m.getName() + "`") || readme.contains("`" + m.getName() + "(");
            Due.is(m.getName() + " stands in README.md", told || !Modifier.isPublic(m.getModifiers()), true);
        }
    }

    /** Gives how many calls there were; a call without its answer behind it is a fault of the README. */
    private static int make(Run run, Map<String, Long> known, String block) {
        int made = 0;
        for (String line : block.split("\n")) {
            if (line.startsWith("//") || line.contains("new ExamTour()")) {
                continue;
            }
            Matcher call = CALL.matcher(line);
            boolean told = call.matches();
            Due.is("'" + line + "' tells a call and its answer", told, true);
            if (told) {
                long want = number(call.group(3));
                run.due(inNumbers(call.group(2), known), want);
                known.put("" + call.group(1), want);
                made++;
            }
        }
        return made;
    }

    private static long number(String answer) {
        return switch (answer) {
            case "true" -> 1;
            case "false" -> 0;
            default -> Long.parseLong(answer);
        };
    }

    private static String inNumbers(String call, Map<String, Long> known) {
        return WORD.matcher(call.replace("ExamTour.NONE", "-1"))
            .replaceAll(word -> known.containsKey(word.group()) ? "" + known.get(word.group()) : word.group());
    }
}
