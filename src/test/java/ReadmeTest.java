import java.io.IOException;
import java.nio.file.Files;
import java.nio.file.Path;
import java.util.regex.Matcher;
import java.util.regex.Pattern;

/**
 * What README.md shows as an example gives the answers that it tells: each call of its Java blocks is
 * made, one behind the other on one object, and its answer must be the first word of its comment.
 */
public final class ReadmeTest {
    private static final Pattern BLOCK = Pattern.compile("```java\n(.*?)```", Pattern.DOTALL);
    private static final Pattern CALL = Pattern.compile("yard\\.(\\w+\\([^)]*\\)); +// (-?\\d+|true|false)\\b.*");

    private ReadmeTest() {
    }

    public static void main(String[] args) throws IOException {
        String text = Files.readString(Path.of(System.getProperty("discyard.readme", "README.md")));
        Play play = new Play();
        int calls = 0;
        Matcher block = BLOCK.matcher(text);
        while (block.find()) {
            for (String line : block.group(1).split("\n")) {
                Check.part("README.md: " + line);
                Matcher call = CALL.matcher(line);
                if (call.matches()) {
                    play.say(call.group(1) + " = " + call.group(2));
                    calls++;
                } else {
                    Check.same("a line that is no call", line, calls == 0 ? "DiscYard yard = new DiscYard();" : "");
                }
            }
        }
        Check.part("README.md");
        Check.due("calls are shown", calls > 0, true);
        told(text);
        Check.end();
    }

    /** What a reader must find there: how trouble() is read, and how the tests are run. */
    private static void told(String text) {
        for (String word : new String[] {"trouble()", "`NONE`", "`false`", ".ci/run"}) {
            Check.due(word + " is told", text.contains(word), true);
        }
        for (int trouble = 0; trouble <= 5; trouble++) {
            Check.due("trouble " + trouble + " is told", text.contains("| " + trouble + " |"), true);
        }
    }
}
