import java.io.IOException;
import java.lang.reflect.Method;
import java.lang.reflect.Modifier;
import java.nio.file.Files;
import java.nio.file.Path;
import java.util.ArrayList;
import java.util.Arrays;
import java.util.HashMap;
import java.util.List;
import java.util.Map;
import java.util.Set;
import java.util.TreeSet;
import java.util.regex.Matcher;
import java.util.regex.Pattern;
import java.util.stream.Stream;

/**
 * The example of use in README.md: every call in it is made, and answers what README.md tells.
 * A row that this test can't read is a fault, too, so that no answer is told without being tried.
 */
public final class ReadmeTest {
    private static final int MOST_CALLS = 512;
    private static final Pattern EXAMPLE = Pattern.compile("(?s)```java\n(.*?)```");
    private static final Pattern MADE = Pattern.compile("LayerDrawing (\\w+) = new LayerDrawing\\(\\);");
    private static final Pattern CALL =
        Pattern.compile("(?:int (\\w+) = )?(\\w+)\\.(\\w+)\\(([^()]*)\\); +// (-?\\d+)(?::.*)?");

    private static int wrong = 0;

    private final Map<String, LayerDrawing> drawings = new HashMap<>();
    private final Map<String, Integer> numbers = new HashMap<>();
    private final Set<String> shown = new TreeSet<>();
    private int calls = 0;

    private static void fail(String what) {
        wrong++;
        System.out.println("README.md: " + what);
    }

    public static void main(String[] args) throws IOException {
        String readme = Files.readString(Path.of("README.md"));
        ReadmeTest test = new ReadmeTest();
        Matcher examples = EXAMPLE.matcher(readme);
        while (examples.find()) {
            for (String row : examples.group(1).split("\n")) {
                test.playRow(row.trim());
            }
        }
        test.checkShown();
        checkTestsAreNamed(readme);
        System.out.println(test.calls + " calls of README.md made, " + wrong + " faults");
        if (wrong != 0) {
            System.exit(1);
        }
    }

    private void playRow(String row) {
        Matcher made = MADE.matcher(row);
        Matcher call = CALL.matcher(row);
        if (made.matches()) {
            drawings.put(made.group(1), new LayerDrawing());
        } else if (call.matches()) {
            playCall(row, call);
        } else if (!row.isEmpty() && !row.startsWith("//")) {
            fail("can't be read: " + row);
        }
    }

    private void playCall(String row, Matcher call) {
        LayerDrawing drawing = drawings.get(call.group(2));
        List<Integer> arguments = argumentsOf(call.group(4));
        if (drawing == null || arguments == null) {
            fail("names what is not there: " + row);
            return;
        }
        calls++;
        shown.add(call.group(3));
        int got = answer(drawing, call.group(3), arguments);
        if (got != Integer.parseInt(call.group(5))) {
            fail(row + " .. answered " + got);
        }
        if (call.group(1) != null && numbers.put(call.group(1), got) != null) {
            fail("a name twice: " + row);
        }
    }

    /** Numbers and names of answers; null if there is no such name. */
    private List<Integer> argumentsOf(String text) {
        List<Integer> arguments = new ArrayList<>();
        if (text.isEmpty()) {
            return arguments;
        }
        for (String word : text.split(", ")) {
            Integer number = word.matches("-?\\d+") ? Integer.valueOf(word) : numbers.get(word);
            if (number == null) {
                return null;
            }
            arguments.add(number);
        }
        return arguments;
    }

    private static int answer(LayerDrawing drawing, String name, List<Integer> arguments) {
        Class<?>[] types = new Class<?>[arguments.size()];
        Arrays.fill(types, int.class);
        try {
            return (Integer) LayerDrawing.class.getMethod(name, types).invoke(drawing, arguments.toArray());
        } catch (ReflectiveOperationException e) {
            throw new IllegalStateException("README.md: " + name + arguments + " failed", e);
        }
    }

    private void checkShown() {
        for (Method m : LayerDrawing.class.getDeclaredMethods()) {
            if (Modifier.isPublic(m.getModifiers()) && !shown.contains(m.getName())) {
                fail("the example has no call of " + m.getName());
            }
        }
        if (calls > MOST_CALLS) {
            fail("nothing is promised after 512 calls");
        }
    }

    private static void checkTestsAreNamed(String readme) throws IOException {
        try (Stream<Path> files = Files.list(Path.of("src/test/java"))) {
            for (Path file : files.toList()) {
                String name = file.getFileName().toString().replace(".java", "");
                if (!readme.contains("- `" + name + "`:")) {
                    fail("does not name " + name);
                }
            }
        }
        if (!readme.contains("```sh\n.ci/run\n```")) {
            fail("does not say how to run the tests");
        }
    }
}
