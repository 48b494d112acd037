import java.io.IOException;
import java.nio.file.Files;
import java.nio.file.Path;
import java.util.regex.Matcher;
import java.util.regex.Pattern;

/** The rules of LANGUAGE.md that can be seen from the words of the source; run from the project's directory. */
public final class FormTest {
    private static final Check CHECK = new Check("language");
    private static final String[] NOT_ALLOWED = {
        "package", "import", "throw", "throws", "try", "catch", "finally", "synchronized", "assert", "volatile",
        "transient", "native", "protected", "Random", "System", "Thread"};

    public static void main(String[] args) throws IOException {
        String code = withoutComments(Files.readString(Path.of("src/main/java/DropCode.java")));
        CHECK.test("rules 6 and 13: no such word", () -> {
            for (String word : NOT_ALLOWED) {
                CHECK.due(word, found(code, "\\b" + word + "\\b"), 0);
            }
        });
        CHECK.test("rule 2: no lambda, no method reference", () -> CHECK.due("-> and ::", found(code, "->|::"), 0));
        CHECK.test("rule 5: static fields are final", () ->
                CHECK.due("static fields", found(code, "\\bstatic (?!final )[\\w\\[\\]]+ \\w+ *[=;]"), 0));
        CHECK.test("room: rows are made once, for the fields", () ->
                CHECK.due("new", found(code, "\\bnew\\b"), found(code, "\\w+ = new int\\[(size|MOST_DROPS)\\];")));
        CHECK.end();
    }

    private static String withoutComments(String source) {
        return source.replaceAll("(?s)/\\*.*?\\*/", "").replaceAll("//[^\n]*", "");
    }

    private static int found(String code, String pattern) {
        Matcher matcher = Pattern.compile(pattern).matcher(code);
        int count = 0;
        while (matcher.find()) {
            count++;
        }
        return count;
    }
}
