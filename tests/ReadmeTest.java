import java.nio.file.Files;
import java.nio.file.Path;
import java.util.regex.Matcher;
import java.util.regex.Pattern;

/** The examples of README.md: each call in them answers what stands behind it. */
public final class ReadmeTest {
    private static final Pattern CALL = Pattern.compile("grammar\\.(\\w+\\(.*\\)); +// (-?\\d+|'.'|[A-Z]+)(,.*)?");

    public static void main(String[] args) throws Exception {
        Script script = new Script(0, "README.md");
        int calls = 0;
        for (String line : Files.readAllLines(Path.of("README.md"))) {
            Matcher call = CALL.matcher(line);
            if (call.matches()) {
                calls++;
                script.calls(call.group(1) + " = " + call.group(2));
            } else if (line.startsWith("grammar.")) {
                System.out.println("README.md: this call has no answer behind it: " + line);
                System.exit(1);
            }
        }
        System.out.println(calls + " calls in README.md");
        Script.finish();
    }
}
