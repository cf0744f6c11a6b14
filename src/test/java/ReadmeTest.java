import java.io.IOException;
import java.lang.reflect.InvocationTargetException;
import java.lang.reflect.Method;
import java.nio.file.Files;
import java.nio.file.Path;
import java.util.ArrayList;
import java.util.HashMap;
import java.util.List;
import java.util.Map;
import java.util.regex.Matcher;
import java.util.regex.Pattern;

/** The examples of README.md, read from it line by line: each answers what its comment tells. */
public final class ReadmeTest {

    private static final int EXAMPLES = 3;
    private static final String NEW_OBJECT = "Callgate gate = new Callgate();";
    /** Perhaps a name for the answer, the call with its arguments, and perhaps a comment. */
    private static final Pattern LINE =
        Pattern.compile("(?:int (\\w+) = )?gate\\.(\\w+)\\((.*?)\\);(?:\\s*// (.*))?");
    private static final Pattern ANSWER = Pattern.compile("(-?\\d+)\\b.*");
    private static final Pattern REFUSAL = Pattern.compile("throws (\\w+)\\b.*");

    private final Map<String, Integer> named = new HashMap<>();
    private final Callgate gate = new Callgate();

    public static void main(String[] args) throws IOException {
        List<List<String>> examples = examples(Files.readAllLines(Path.of("README.md")));
        Check.that("the number of examples", () -> Check.due("README.md", EXAMPLES, examples.size()));
        for (List<String> example : examples) {
            Check.that("the example with " + example.get(1), () -> new ReadmeTest().follow(example));
        }
        Check.end();
    }

    private static List<List<String>> examples(List<String> readme) {
        List<List<String>> examples = new ArrayList<>();
        List<String> open = null;
        for (String line : readme) {
            if (line.equals("```java")) {
                open = new ArrayList<>();
                examples.add(open);
            } else if (line.equals("```")) {
                open = null;
            } else if (open != null) {
                open.add(line);
            }
        }
        return examples;
    }

    private void follow(List<String> example) {
        if (!example.get(0).equals(NEW_OBJECT)) {
            Check.fail("no new object: " + example.get(0));
        }
        for (String line : example.subList(1, example.size())) {
            Matcher parts = LINE.matcher(line);
            if (!parts.matches()) {
                Check.fail("not a call: " + line);
                return;
            }
            String comment = parts.group(4) == null ? "" : parts.group(4);
            String told = ask(parts.group(2), parts.group(3));
            hold(line, comment, told);
            if (parts.group(1) != null) {
                named.put(parts.group(1), Integer.valueOf(told));
            }
        }
    }

    private static void hold(String line, String comment, String told) {
        Matcher answer = ANSWER.matcher(comment);
        Matcher refusal = REFUSAL.matcher(comment);
        boolean mayThrow = refusal.matches();
        String due = answer.matches() ? answer.group(1) : mayThrow ? refusal.group(1) : told;
        if (!told.equals(due)) {
            Check.fail("README.md: " + line + " answered " + told);
        } else if (!mayThrow && told.endsWith("Exception")) {
            Check.fail("README.md: " + line + " threw " + told);
        }
    }

    /** Answers what the call answers, or the simple name of the exception that it throws. */
    private String ask(String name, String arguments) {
        String[] words = arguments.isEmpty() ? new String[0] : arguments.split(", ");
        Object[] numbers = new Object[words.length];
        Class<?>[] types = new Class<?>[words.length];
        for (int i = 0; i < words.length; i++) {
            numbers[i] = named.containsKey(words[i]) ? named.get(words[i]) : Integer.valueOf(words[i]);
            types[i] = int.class;
        }
        try {
            Method call = Callgate.class.getMethod(name, types);
            return String.valueOf(call.invoke(gate, numbers));
        } catch (InvocationTargetException e) {
            return e.getCause().getClass().getSimpleName();
        } catch (ReflectiveOperationException e) {
            return e.toString();
        }
    }
}
