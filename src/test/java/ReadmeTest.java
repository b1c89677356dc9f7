import java.io.IOException;
import java.lang.reflect.Method;
import java.lang.reflect.Modifier;
import java.nio.file.Files;
import java.nio.file.Path;
import java.util.Map;
import java.util.TreeMap;
import java.util.TreeSet;
import java.util.regex.Matcher;
import java.util.regex.Pattern;

/**
 * The example in README.md: its calls give the answers that README.md tells, and it has every call of the face. Its
 * argument is the project's directory.
 */
public final class ReadmeTest {
    private static final Check CHECK = new Check("ReadmeTest");
    private static final String FIRST_LINE = "DendroDesk desk = new DendroDesk();";
    private static final Pattern BLOCK = Pattern.compile("(?ms)^```java\\n(.*?)^```$");
    private static final Pattern CALL = Pattern.compile(
            "desk\\.(\\w+)\\(([^()]*)\\); +// (-?\\d+|true|false)(?:|: [^ ].*|, and OUT is ([^ ].*))");
    private static final Map<String, Method> FACE = new TreeMap<>();

    private final DendroDesk desk = new DendroDesk();
    private final TreeSet<String> shown = new TreeSet<>();
    private int calls = 0;

    public static void main(String[] args) throws IOException {
        for (Method method : DendroDesk.class.getDeclaredMethods()) {
            if (Modifier.isPublic(method.getModifiers())) {
                FACE.put(method.getName(), method);
            }
        }
        new ReadmeTest().follow(Files.readString(Path.of(args.length == 0 ? "." : args[0], "README.md")));
        CHECK.finish();
    }

    private void follow(String readme) {
        StringBuilder example = new StringBuilder();
        Matcher block = BLOCK.matcher(readme);
        while (block.find()) {
            example.append(block.group(1));
        }
        String[] lines = example.toString().split("\n");
        CHECK.due("the first line of the example", lines[0], FIRST_LINE);
        for (int k = 1; k < lines.length; k++) {
            followLine(lines[k]);
        }
        CHECK.due("the calls that the example has", shown.toString(), FACE.keySet().toString());
        CHECK.due("the calls are at most 512", calls <= Desk.MOST_CALLS, true);
    }

    private void followLine(String line) {
        Matcher told = CALL.matcher(line);
        boolean sound = told.matches() && FACE.containsKey(told.group(1));
        CHECK.due("whether this is a call of the face and its answer: " + line, sound, true);
        if (!sound) {
            return;
        }
        shown.add(told.group(1));
        CHECK.due(line, answer(told.group(1), told.group(2)), told.group(3));
        if (told.group(4) != null) {
            CHECK.due(line, outText(), told.group(4));
        }
    }

    private String answer(String name, String arguments) {
        String[] words = arguments.isBlank() ? new String[0] : arguments.split(", ");
        Object[] numbers = new Object[words.length];
        for (int k = 0; k < words.length; k++) {
            numbers[k] = Integer.decode(words[k]);
        }
        calls++;
        try {
            return FACE.get(name).invoke(desk, numbers).toString();
        } catch (ReflectiveOperationException | IllegalArgumentException e) {
            return e.toString();
        }
    }

    private String outText() {
        StringBuilder text = new StringBuilder();
        calls++;
        for (int b = desk.out(0); b != DendroDesk.NONE && calls <= Desk.MOST_CALLS; b = desk.out(text.length())) {
            text.append((char) b);
            calls++;
        }
        return text.toString();
    }
}
