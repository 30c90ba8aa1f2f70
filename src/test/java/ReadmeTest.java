import java.io.IOException;
import java.lang.reflect.Method;
import java.lang.reflect.Modifier;
import java.nio.file.Files;
import java.nio.file.Path;
import java.util.ArrayList;
import java.util.Arrays;
import java.util.List;
import java.util.Set;
import java.util.TreeSet;
import java.util.regex.Matcher;
import java.util.regex.Pattern;

/** The example of README.md: each call answers what stands behind it, and each call of the face is shown. */
public final class ReadmeTest {
    private static final String MADE = "BundleLinks x = new BundleLinks();";
    private static final Pattern ROW = Pattern.compile("x\\.(\\w+)\\(([^)]*)\\);\\s+// (-?\\d+|[A-Z]+): \\S.*");
    private static final int MOST_CALLS = 512;

    private static final Set<String> shown = new TreeSet<>();
    private static final Set<String> answered = new TreeSet<>();

    public static void main(String[] args) throws IOException {
        List<String> rows = javaRows(Files.readAllLines(Path.of("README.md")));
        Check.due("the example makes one object, first", rows.indexOf(MADE), 0);
        BundleLinks x = new BundleLinks();
        Model m = new Model();
        int calls = 0;
        for (String row : rows.subList(1, rows.size())) {
            Matcher told = ROW.matcher(row);
            if (!told.matches()) {
                Check.due("a row that is no call with its answer: " + row, 0, 1);
                continue;
            }
            calls++;
            Call call = new Call(told.group(1), numbers(told.group(2)));
            int due = answer(told.group(3));
            Check.due("README.md: " + row, call.on(x), due);
            Check.due("README.md, the model: " + row, call.on(m), due);
            shown.add(told.group(1));
            if (!isNumber(told.group(3))) answered.add(told.group(3));
        }
        if (calls > MOST_CALLS) Check.due("calls on one object", calls, MOST_CALLS);
        everyCallIsShown();
        Check.same("constants shown in README.md", answered.toString(), "[FULL, NO, NONE, OUTSIDE, STATE, UNKNOWN]");
        Check.end();
    }

    private static List<String> javaRows(List<String> lines) {
        List<String> rows = new ArrayList<>();
        boolean inside = false;
        for (String line : lines) {
            if (line.startsWith("```")) inside = line.equals("```java");
            else if (inside && !line.isBlank()) rows.add(line);
        }
        return rows;
    }

    private static int[] numbers(String with) {
        return Arrays.stream(with.split(", ")).mapToInt(ReadmeTest::number).toArray();
    }

    private static int number(String text) {
        if (text.equals("true")) return 1;
        if (text.equals("false")) return 0;
        return Integer.parseInt(text);
    }

    private static boolean isNumber(String text) {
        return !Character.isUpperCase(text.charAt(0));
    }

    private static int answer(String text) {
        switch (text) {
            case "NONE": return BundleLinks.NONE;
            case "UNKNOWN": return BundleLinks.UNKNOWN;
            case "OUTSIDE": return BundleLinks.OUTSIDE;
            case "STATE": return BundleLinks.STATE;
            case "FULL": return BundleLinks.FULL;
            case "NO": return BundleLinks.NO;
            default: return number(text);
        }
    }

    private static void everyCallIsShown() {
        Set<String> face = new TreeSet<>();
        for (Method method : BundleLinks.class.getDeclaredMethods()) {
            if (Modifier.isPublic(method.getModifiers())) face.add(method.getName());
        }
        Check.same("calls shown in README.md", shown.toString(), face.toString());
    }
}
