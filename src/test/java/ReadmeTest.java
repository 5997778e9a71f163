import java.io.IOException;
import java.lang.reflect.Method;
import java.lang.reflect.Modifier;
import java.nio.file.Files;
import java.nio.file.Path;
import java.util.Map;
import java.util.TreeMap;
import java.util.regex.Matcher;
import java.util.regex.Pattern;

/** README.md: its example answers what its comments say, and its table has every call, with as many numbers as it takes. */
public final class ReadmeTest {
    private static final Pattern EXAMPLE = Pattern.compile("(?s)```java\n(HungStalls x = .*?)```");
    private static final Pattern TEXT = Pattern.compile("\"([^\"]+)\"\\.toCharArray\\(\\)");
    private static final Pattern CALL = Pattern.compile("(?m)^x\\.(\\w+\\([-0-9, ]*\\)); *// (-?\\d+).*$");
    private static final Pattern LISTED = Pattern.compile("(?m)^\\| `(\\w+)\\(([a-z, ]*)\\)` \\| .+ \\|$");

    private ReadmeTest() {
    }

    public static void main(String[] args) throws IOException {
        String page = Files.readString(Path.of("README.md"));
        Due due = new Due();
        example(due, page);
        table(due, page);
        due.end();
    }

    private static void example(Due due, String page) {
        Matcher code = EXAMPLE.matcher(page);
        Matcher text = TEXT.matcher(page);
        if (!code.find() || !text.find()) {
            due.fail("README.md has no example");
            return;
        }
        Run x = new Run(due).feed(text.group(1));
        Matcher calls = CALL.matcher(code.group(1));
        int found = 0;
        while (calls.find()) {
            x.is(Integer.parseInt(calls.group(2)), calls.group(1));
            found++;
        }
        due.is("the lines of the example that begin with x.", found, code.group(1).lines().filter(line -> line.startsWith("x.")).count());
    }

    private static void table(Due due, String page) {
        Map<String, Integer> listed = new TreeMap<>();
        Matcher rows = LISTED.matcher(page);
        while (rows.find()) {
            listed.put(rows.group(1), rows.group(2).isEmpty() ? 0 : rows.group(2).split(", ").length);
        }
        int open = 0;
        for (Method m : HungStalls.class.getDeclaredMethods()) {
            if (Modifier.isPublic(m.getModifiers())) {
                due.is("how many numbers " + m.getName() + " takes in README.md", listed.getOrDefault(m.getName(), -1), m.getParameterCount());
                open++;
            }
        }
        due.is("the calls that README.md lists", listed.size(), open);
    }
}
