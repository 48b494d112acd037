import java.io.IOException;
import java.nio.file.Files;
import java.nio.file.Path;
import java.util.LinkedHashMap;
import java.util.Map;
import java.util.regex.Matcher;
import java.util.regex.Pattern;

/** The rules of LANGUAGE.md that can be seen from the words of the source; run from the project's directory. */
public final class FormTest {
    private static final Check CHECK = new Check("language");
    private static final String[] NOT_ALLOWED = {
        "package", "import", "throw", "throws", "try", "catch", "finally", "synchronized", "assert", "volatile",
        "transient", "native", "protected", "Random", "System", "Thread"};
    private static final Pattern METHOD = Pattern.compile(
            "(?sm)^    (?:public|private)(?: static)? (?:int |boolean |void )?(\\w+)\\(([^)]*)\\) \\{$(.*?)^    \\}$");
    private static final int DEEPEST = 8;

    private static String code;
    private static final Map<String, String> BODIES = new LinkedHashMap<>();

    public static void main(String[] args) throws IOException {
        code = withoutComments(Files.readString(Path.of("src/main/java/DropCode.java")));
        readBodies();
        CHECK.test("rule 11: a method takes at most seven parameters, and stays short", FormTest::methodsAreSmall);
        CHECK.test("rules 6 and 13: no such word", () -> {
            for (String word : NOT_ALLOWED) {
                CHECK.due(word, found("\\b" + word + "\\b"), 0);
            }
        });
        CHECK.test("rule 2: no lambda, no method reference", () -> CHECK.due("-> and ::", found("->|::"), 0));
        CHECK.test("rule 3: no text and no fraction", () -> CHECK.due("\" and a point", found("\"|'|\\d\\.|\\.\\d"), 0));
        CHECK.test("rule 4: of the library only functions over ints", () -> CHECK.due("names of classes",
                found("\\b[A-Z][a-z]\\w*"),
                found("\\bDropCode\\b|\\bMath\\.floorMod\\(|\\bInteger\\.(bitCount|numberOfTrailingZeros)\\(")));
        CHECK.test("rule 5: static fields are final", () ->
                CHECK.due("static fields", found("\\bstatic (?!final )[\\w\\[\\]]+ \\w+ *[=;]"), 0));
        CHECK.test("rules 8 and 11: calls go at most eight deep", FormTest::callsAreNotDeep);
        CHECK.test("rule 9: every loop counts up to a bound", () -> CHECK.due("loops", found("\\b(for|while|do)\\b"),
                found("\\bfor \\(int (\\w+) = [01]; \\1 < [^;]+; \\1\\+\\+\\)")));
        CHECK.test("rule 11: some twenty fields", () ->
                CHECK.due("more than twenty", found("(?m)^    private (final )?int(\\[\\])? \\w+( = .*)?;") > 20 ? 1 : 0, 0));
        CHECK.test("room: rows are made once, for the fields", () ->
                CHECK.due("new", found("\\bnew\\b"), found("\\w+ = new int\\[(size|MOST_DROPS)\\];")));
        CHECK.end();
    }

    private static void readBodies() {
        Matcher method = METHOD.matcher(code);
        while (method.find()) {
            BODIES.put(method.group(1), method.group(3));
        }
        // What is not seen as a method here would escape the look at the depth of calls.
        CHECK.due("bodies that were seen", BODIES.size(), found("(?m)^    [^ \n][^\n]*\\{$"));
    }

    private static void methodsAreSmall() {
        Matcher method = METHOD.matcher(code);
        while (method.find()) {
            int parameters = method.group(2).isEmpty() ? 0 : method.group(2).split(",").length;
            CHECK.due(method.group(1) + " takes more than seven", parameters > 7 ? 1 : 0, 0);
            CHECK.due(method.group(1) + " is long", method.group(3).lines().count() > 60 ? 1 : 0, 0);
        }
    }

    private static void callsAreNotDeep() {
        for (String name : BODIES.keySet()) {
            CHECK.due("calls deep in " + name + " beyond eight", Math.max(0, depth(name, 1) - DEEPEST), 0);
        }
    }

    /** How many calls stand open at once, when the one of this name is at this level; it ends for a circle too. */
    private static int depth(String name, int level) {
        int deepest = level;
        if (level <= DEEPEST && BODIES.containsKey(name)) {
            Matcher call = Pattern.compile("(\\w+)\\(").matcher(BODIES.get(name));
            while (call.find()) {
                deepest = Math.max(deepest, depth(call.group(1), level + 1));
            }
        }
        return deepest;
    }

    private static String withoutComments(String source) {
        return source.replaceAll("(?s)/\\*.*?\\*/", "").replaceAll("//[^\n]*", "");
    }

    private static int found(String pattern) {
        Matcher matcher = Pattern.compile(pattern).matcher(code);
        int count = 0;
        while (matcher.find()) {
            count++;
        }
        return count;
    }
}
