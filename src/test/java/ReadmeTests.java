import java.io.IOException;
import java.nio.file.Files;
import java.nio.file.Path;
import java.util.regex.Matcher;
import java.util.regex.Pattern;

/** The examples of README.md: each call answers, or throws, what stands behind it. */
public final class ReadmeTests extends Sentences {
    private static final String NEW_OBJECT = "WhistleTunes school = new WhistleTunes();";
    private static final Pattern TYPED = Pattern.compile("for \\(char c : \"(.*)\"\\.toCharArray\\(\\)\\) \\{");
    private static final Pattern CALL =
        Pattern.compile("school\\.(\\w+\\([^)]*\\)); *// (-?\\d+(?:\\.\\d+)?|\\w+Exception)(?::.*)?");
    private static final String INSIDE_OF_LOOP = "    school\\.append\\(c\\);|}";
    private static final int LEAST_CALLS = 20;

    public static void main(String[] args) throws IOException {
        begin("README.md");
        boolean isExample = false;
        int calls = 0;
        for (String line : Files.readAllLines(Path.of("README.md"))) {
            if (line.startsWith("```")) {
                isExample = false;
            } else if (line.equals(NEW_OBJECT)) {
                isExample = true;
                begin("README.md, an example");
            } else if (isExample) {
                calls += follow(line);
            }
        }
        if (calls < LEAST_CALLS) {
            fault("only " + calls + " calls of README.md were found");
        }
        if (!end()) {
            System.exit(1);
        }
    }

    private static int follow(String line) {
        Matcher typed = TYPED.matcher(line);
        Matcher call = CALL.matcher(line);
        if (typed.matches()) {
            typeMore(typed.group(1));
        } else if (call.matches()) {
            due(call.group(1), call.group(2));
            return 1;
        } else if (!line.matches(INSIDE_OF_LOOP)) {
            fault("this line is not understood: " + line);
        }
        return 0;
    }
}
