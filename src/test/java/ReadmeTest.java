import java.io.IOException;
import java.lang.reflect.Method;
import java.lang.reflect.Modifier;
import java.nio.file.Files;
import java.nio.file.Path;
import java.util.HashMap;
import java.util.Map;
import java.util.TreeSet;
import java.util.regex.Matcher;
import java.util.regex.Pattern;

/** README.md tells every call of the public face, and its example answers as it says. */
public final class ReadmeTest {
    private static final Pattern HEAD =
            Pattern.compile("(?m)^    public ((?:\\w+ )?\\w+\\([^)]*\\)) \\{$");
    private static final Pattern STEP = Pattern.compile(
            "(?m)^(?:int (\\w+) = )?papers\\.(\\w+)\\(([^)]*)\\);(?: +// (-?\\d+|true|false)\\b)?");
    private static final Checks checks = new Checks("ReadmeTest");

    private final PaperKinds papers = new PaperKinds();
    private final Map<String, Object> numbers = new HashMap<>();
    private final TreeSet<String> used = new TreeSet<>();

    public static void main(String[] args) throws IOException, ReflectiveOperationException {
        String readme = Files.readString(Path.of("README.md"));
        tellsEveryCall(readme);
        ReadmeTest example = new ReadmeTest();
        example.answersAsItSays(readme);
        example.usesEveryCall();
        checks.end();
    }

    private static void tellsEveryCall(String readme) throws IOException {
        Matcher head = HEAD.matcher(Files.readString(Path.of("src/main/java/PaperKinds.java")));
        int heads = 0;
        while (head.find()) {
            heads++;
            String row = "\n| `" + head.group(1) + "` | ";
            checks.due("a row of " + head.group(1), readme.contains(row), true);
        }
        checks.due("the constructor and methods of the face", heads, 19);
    }

    private void answersAsItSays(String readme) throws ReflectiveOperationException {
        Matcher step = STEP.matcher(readme);
        while (step.find()) {
            Object answer = call(step.group(2), step.group(3).split(", *"));
            checks.due(step.group() + " answered " + answer + ": as said",
                    String.valueOf(answer).equals(step.group(4)), true);
            numbers.put(String.valueOf(step.group(1)), answer);
        }
    }

    private Object call(String name, String[] words) throws ReflectiveOperationException {
        used.add(name);
        for (Method method : PaperKinds.class.getMethods()) {
            if (method.getName().equals(name)) {
                Object[] values = new Object[method.getParameterCount()];
                for (int i = 0; i < values.length; i++) {
                    values[i] = value(words[i], method.getParameterTypes()[i]);
                }
                return method.invoke(papers, values);
            }
        }
        return "nothing";
    }

    private Object value(String word, Class<?> type) {
        if (type == boolean.class) {
            return Boolean.valueOf(word);
        }
        return numbers.containsKey(word) ? numbers.get(word) : Integer.valueOf(word);
    }

    private void usesEveryCall() {
        for (Method method : PaperKinds.class.getDeclaredMethods()) {
            if (Modifier.isPublic(method.getModifiers())) {
                checks.due("the example uses " + method.getName(),
                        used.contains(method.getName()), true);
            }
        }
    }
}
