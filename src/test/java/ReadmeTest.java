import java.lang.reflect.Method;
import java.lang.reflect.Modifier;
import java.nio.file.Files;
import java.nio.file.Path;
import java.util.List;
import java.util.Set;
import java.util.TreeSet;
import java.util.regex.Matcher;
import java.util.regex.Pattern;
import java.util.stream.Collectors;
import java.util.stream.Stream;

/** README.md: each answer that its examples show is the class's, each call and test is named. */
public final class ReadmeTest {
    private static final Path README = Path.of("README.md");
    private static final Pattern MADE = Pattern.compile("SharedLine x = new SharedLine\\(\\);");
    private static final Pattern TEXT = Pattern.compile("String text = \"([^\"]*)\";");
    private static final Pattern ANSWER =
            Pattern.compile("x\\.(\\w+)\\(([^)]*)\\);\\s+// (-?\\d+|[A-Z]+)(:.*)?");
    private static final Checks CHECKS = new Checks();

    private final Set<String> shown = new TreeSet<>();
    private SharedLine x = new SharedLine();

    public static void main(String[] args) throws Exception {
        List<String> lines = Files.readAllLines(README);
        new ReadmeTest().examples(lines);
        callsNamed(String.join("\n", lines));
        testsNamed(String.join("\n", lines));
        CHECKS.end();
    }

    private static Set<String> calls() {
        return Stream.of(SharedLine.class.getDeclaredMethods())
                .filter(m -> Modifier.isPublic(m.getModifiers()))
                .map(Method::getName).collect(Collectors.toCollection(TreeSet::new));
    }

    private void examples(List<String> lines) throws Exception {
        for (String line : lines) {
            Matcher text = TEXT.matcher(line);
            Matcher answer = ANSWER.matcher(line);
            if (MADE.matcher(line).matches()) {
                x = new SharedLine();
            } else if (text.matches()) {
                shown.add("type");
                Checks.typed(x, text.group(1));
            } else if (answer.matches()) {
                answered(line, answer);
            } else {
                CHECKS.isTrue("an answer stands in: " + line, !line.contains(";  "));
            }
        }
        CHECKS.same("the calls that examples show", shown.toString(), calls().toString());
    }

    private void answered(String line, Matcher answer) throws Exception {
        String name = answer.group(1);
        String[] words = answer.group(2).isEmpty() ? new String[0] : answer.group(2).split(", *");
        Class<?>[] types = new Class<?>[words.length];
        Object[] numbers = new Object[words.length];
        for (int i = 0; i < words.length; i++) {
            types[i] = int.class;
            numbers[i] = Integer.valueOf(words[i]);
        }
        shown.add(name);
        int got = (Integer) SharedLine.class.getMethod(name, types).invoke(x, numbers);
        CHECKS.due(line, got, number(answer.group(3)));
    }

    private static int number(String word) throws Exception {
        return Character.isLetter(word.charAt(0))
                ? SharedLine.class.getField(word).getInt(null) : Integer.parseInt(word);
    }

    private static void callsNamed(String readme) {
        for (String call : calls()) {
            CHECKS.isTrue("the calls' table has " + call,
                    Pattern.compile("(?m)^\\|.*`" + call + "\\([^`]*`.* \\|").matcher(readme).find());
        }
    }

    private static void testsNamed(String readme) throws Exception {
        try (Stream<Path> files = Files.list(Path.of("src/test/java"))) {
            for (Path file : files.toList()) {
                String name = file.getFileName().toString().replace(".java", "");
                CHECKS.isTrue("the tests' table has " + name,
                        !name.endsWith("Test") || readme.contains("\n| " + name + " | "));
            }
        }
    }
}
