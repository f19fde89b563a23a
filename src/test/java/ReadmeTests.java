import java.io.IOException;
import java.lang.reflect.Method;
import java.lang.reflect.Modifier;
import java.nio.file.Files;
import java.nio.file.Path;
import java.util.HashMap;
import java.util.HashSet;
import java.util.List;
import java.util.Map;
import java.util.Set;
import java.util.regex.Matcher;
import java.util.regex.Pattern;
import java.util.stream.Stream;

/** The examples of README.md are called line by line: each answers what stands behind it. */
public final class ReadmeTests extends Due {
    private static final Pattern MADE = Pattern.compile("MatchRows (\\w+) = new MatchRows\\(\\);");
    private static final Pattern CALLED =
        Pattern.compile("(?:int (\\w+) = )?(\\w+)\\.(\\w+)\\(([^()]*)\\); +// (-?\\d+): .+");

    private static final Map<String, MatchRows> objects = new HashMap<>();
    private static final Map<String, Integer> numbers = new HashMap<>();
    private static final Set<String> called = new HashSet<>();
    private static final Set<Integer> answers = new HashSet<>();

    private ReadmeTests() {
    }

    public static void main(String[] args) throws Exception {
        List<String> lines = Files.readAllLines(Path.of("README.md"));
        runExamples(lines);
        eachCallHasAnExample();
        eachTestIsNamed(String.join("\n", lines));
        end("ReadmeTests");
    }

    private static void runExamples(List<String> lines) throws Exception {
        boolean inExample = false;
        for (String line : lines) {
            if (line.startsWith("```")) {
                inExample = line.equals("```java");
            } else if (inExample) {
                runLine(line);
            }
        }
        holds("the last example ends", !inExample);
    }

    private static void runLine(String line) throws Exception {
        Matcher made = MADE.matcher(line);
        Matcher call = CALLED.matcher(line);
        if (made.matches()) {
            objects.put(made.group(1), new MatchRows());
        } else if (call.matches()) {
            int answer = answerOf(line, call);
            due(line, answer, Integer.parseInt(call.group(5)));
            answers.add(answer);
            called.add(call.group(3));
            if (call.group(1) != null) {
                numbers.put(call.group(1), answer);
            }
        } else {
            holds("this can be read: " + line, false);
        }
    }

    private static int answerOf(String line, Matcher call) throws Exception {
        String[] words = call.group(4).isEmpty() ? new String[0] : call.group(4).split(", ");
        Class<?>[] types = new Class<?>[words.length];
        Object[] told = new Object[words.length];
        for (int i = 0; i < words.length; i++) {
            types[i] = int.class;
            told[i] = numbers.containsKey(words[i]) ? numbers.get(words[i]) : Integer.valueOf(words[i]);
        }
        Method method = MatchRows.class.getMethod(call.group(3), types);
        return (int) method.invoke(objects.get(call.group(2)), told);
    }

    private static void eachCallHasAnExample() {
        for (Method m : MatchRows.class.getDeclaredMethods()) {
            boolean open = Modifier.isPublic(m.getModifiers());
            holds(m.getName() + "() has an example", !open || called.contains(m.getName()));
        }
        for (int refused : new int[] {MatchRows.BAD, MatchRows.NOT, MatchRows.FULL, MatchRows.CAST, -101}) {
            holds(refused + " has an example", answers.contains(refused));
        }
    }

    private static void eachTestIsNamed(String text) throws IOException {
        try (Stream<Path> files = Files.list(Path.of("src/test/java"))) {
            files.forEach(f -> holds(f + " is named", text.contains(f.getFileName().toString())));
        }
    }
}
