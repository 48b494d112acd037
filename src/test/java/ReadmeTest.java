import java.io.IOException;
import java.lang.reflect.Method;
import java.lang.reflect.Modifier;
import java.nio.file.Files;
import java.nio.file.Path;
import java.util.HashMap;
import java.util.HashSet;
import java.util.Map;
import java.util.Set;
import java.util.regex.Matcher;
import java.util.regex.Pattern;

/** The calls that README.md shows give the answers that it shows; run from the project's directory. */
public final class ReadmeTest {
    private static final Check CHECK = new Check("README.md");
    private static final Pattern EXAMPLE = Pattern.compile("(?s)```java\n(.*?)```");
    private static final Pattern MAKING = Pattern.compile("DropCode (\\w+) = new DropCode\\((-?\\d+)\\); +// .*");
    private static final Pattern SHOWN = Pattern.compile("(.*); +// (-?\\d+)([,:] .*)?");
    private static final Pattern CALL = Pattern.compile("(\\w+)\\.(\\w+)\\((.*)\\)");

    private static final Map<String, DropCode> OBJECTS = new HashMap<>();
    private static final Set<String> CALLED = new HashSet<>();

    public static void main(String[] args) throws IOException {
        Matcher example = EXAMPLE.matcher(Files.readString(Path.of("README.md")));
        CHECK.due("an example", example.find() ? 1 : 0, 1);
        for (String line : example.group(1).split("\n")) {
            CHECK.test("shown", () -> asShown(line.trim()));
        }
        CHECK.test("every method is shown", ReadmeTest::everyMethodIsShown);
        CHECK.end();
    }

    private static void asShown(String line) {
        Matcher making = MAKING.matcher(line);
        Matcher shown = SHOWN.matcher(line);
        if (making.matches()) {
            OBJECTS.put(making.group(1), new DropCode(Integer.parseInt(making.group(2))));
        } else if (shown.matches()) {
            CHECK.due(shown.group(1), value(shown.group(1)), Integer.parseInt(shown.group(2)));
        } else {
            CHECK.due("a line that shows no answer: " + line, line.length(), 0);
        }
    }

    /** The value of a number, or of a call whose arguments are such values. */
    private static int value(String text) {
        Matcher call = CALL.matcher(text);
        if (!call.matches()) {
            return Integer.parseInt(text);
        }
        String[] given = call.group(3).isEmpty() ? new String[0] : call.group(3).split(", ");
        Object[] values = new Object[given.length];
        Class<?>[] types = new Class<?>[given.length];
        for (int i = 0; i < given.length; i++) {
            values[i] = value(given[i]);
            types[i] = int.class;
        }
        CALLED.add(call.group(2));
        try {
            return (Integer) DropCode.class.getMethod(call.group(2), types).invoke(OBJECTS.get(call.group(1)), values);
        } catch (ReflectiveOperationException noSuchCall) {
            throw new IllegalStateException(text, noSuchCall);
        }
    }

    private static void everyMethodIsShown() {
        for (Method m : DropCode.class.getDeclaredMethods()) {
            if (Modifier.isPublic(m.getModifiers())) {
                CHECK.due(m.getName(), CALLED.contains(m.getName()) ? 1 : 0, 1);
            }
        }
    }
}
