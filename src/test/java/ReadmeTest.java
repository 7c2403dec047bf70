import java.io.IOException;
import java.nio.file.Files;
import java.nio.file.Path;
import java.util.ArrayList;
import java.util.List;
import java.util.regex.Matcher;
import java.util.regex.Pattern;

/** The example of README.md: each call that is followed by "// 5: .." answers 5. */
public final class ReadmeTest {
    private static final Pattern TEXT = Pattern.compile("String text = \"(\\w+)\";");
    private static final Pattern CALL = Pattern.compile("(?m)^x\\.(\\w+\\(.*\\)); +// (-?\\d+):");

    public static void main(String[] args) throws IOException {
        String readme = Files.readString(Path.of("README.md"));
        Matcher text = TEXT.matcher(readme);
        Due.holds("README.md has a text", text.find());
        List<String> rows = new ArrayList<>();
        rows.add("tell(" + text.group(1) + ")");
        Matcher call = CALL.matcher(readme);
        while (call.find()) {
            rows.add(call.group(1) + " = " + call.group(2));
        }
        Due.is("calls of the example", rows.size() - 1, 5);
        Script.run("README.md", null, rows.toArray(new String[0]));
        Due.close("ReadmeTest");
    }
}
