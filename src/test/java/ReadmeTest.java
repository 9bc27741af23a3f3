import java.io.IOException;
import java.nio.file.Files;
import java.nio.file.Path;
import java.util.Set;
import java.util.TreeSet;
import java.util.regex.Matcher;
import java.util.regex.Pattern;

/** What README.md shows of the class is so: its calls, one behind the other on one object, with what they answer. */
public final class ReadmeTest {
    private static final Pattern CALL = Pattern.compile("x\\.(\\w+\\(.*\\)); +// (throws )?(\\w+)(:.*)?");
    private static final Set<String> CALLED = new TreeSet<>();

    public static void main(String[] args) throws IOException {
        StringBuilder calls = new StringBuilder();
        boolean isCode = false;
        for (String line : Files.readAllLines(Path.of("README.md"))) {
            if (line.startsWith("```")) {
                isCode = line.equals("```java");
            } else if (isCode && !line.equals("Treequery x = new Treequery();")) {
                calls.append(call(line)).append('\n');
            }
        }
        Runs.run("README", calls.toString());
        Due.is("README shows a good part of the face", true, CALLED.size() > 40);
        Due.end();
    }

    /** A line of the page as a line that Runs takes. */
    private static String call(String line) {
        Matcher matcher = CALL.matcher(line);
        Due.is("a call with its answer: " + line, true, matcher.matches());
        if (!matcher.matches()) {
            return "";
        }
        String call = matcher.group(1).replace("Treequery.", "");
        CALLED.add(call.substring(0, call.indexOf('(')));
        return matcher.group(2) == null ? call + " = " + matcher.group(3) : call + " ! " + exception(matcher.group(3));
    }

    private static String exception(String name) {
        return name.equals(Due.BOUNDS) ? "bounds" : name.equals(Due.ARGUMENT) ? "argument" : "state";
    }
}
