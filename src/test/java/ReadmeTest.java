import java.lang.reflect.Method;
import java.nio.file.Files;
import java.nio.file.Path;
import java.util.Set;
import java.util.TreeSet;
import java.util.regex.Matcher;
import java.util.regex.Pattern;

/** What README.md shows of each call is what the class answers. */
public final class ReadmeTest {
    private static final Check CHECK = new Check();
    private static final String MAKES = "SownPaths park = new SownPaths();";
    private static final Pattern SHOWN = Pattern.compile("park\\.(\\w+)\\(([^)]*)\\); +// (-?\\d+)(:.*)?");

    public static void main(String[] args) throws Exception {
        String all = Files.readString(Path.of("README.md"));
        Set<String> shown = new TreeSet<>();
        Matcher block = Pattern.compile("(?s)```java\n(.*?)```").matcher(all);
        while (block.find()) {
            play(block.group(1).split("\n"), shown);
        }
        for (Method m : SownPaths.class.getMethods()) {
            if (m.getDeclaringClass() == SownPaths.class) {
                CHECK.holds("README.md shows " + m.getName(), shown.contains(m.getName()));
            }
        }
        CHECK.holds("README.md says how to run the tests", all.contains("\n.ci/run\n"));
        CHECK.end();
    }

    private static void play(String[] lines, Set<String> shown) {
        CHECK.holds("a block begins with a new park: " + lines[0], lines[0].equals(MAKES));
        SownPaths park = new SownPaths();
        for (int i = 1; i < lines.length; i++) {
            Matcher m = SHOWN.matcher(lines[i]);
            boolean isCall = m.matches();
            CHECK.holds("a call and its answer: " + lines[i], isCall);
            if (isCall) {
                shown.add(m.group(1));
                CHECK.due(lines[i], Parks.call(park, m.group(1), numbers(m.group(2))), Long.parseLong(m.group(3)));
            }
        }
    }

    private static int[] numbers(String told) {
        String[] parts = told.isEmpty() ? new String[0] : told.split(", ");
        int[] numbers = new int[parts.length];
        for (int i = 0; i < parts.length; i++) {
            numbers[i] = Integer.decode(parts[i]);
        }
        return numbers;
    }
}
