import java.io.IOException;
import java.lang.reflect.Method;
import java.lang.reflect.Modifier;
import java.nio.file.Files;
import java.nio.file.Path;
import java.util.Set;
import java.util.TreeSet;
import java.util.regex.Matcher;
import java.util.regex.Pattern;

/** README.md tells the answers of its example, and all calls with the refusals they have. */
public final class ReadmeTest {
    private static final Pattern STEP = Pattern.compile("shed\\.(\\w+\\([^)]*\\)); +// (-?\\w+)");
    private static final Pattern REFUSAL = Pattern.compile("\\b(BAD|NOT|NONE|CAST)\\b");

    public static void main(String[] args) throws IOException {
        String readme = Files.readString(Path.of("README.md"));
        example(readme);
        Document document = Document.read();
        for (Method m : LoomShed.class.getDeclaredMethods()) {
            if (Modifier.isPublic(m.getModifiers())) {
                row(readme, m, document);
            }
        }
        Check.finish();
    }

    private static void example(String readme) {
        StringBuilder rows = new StringBuilder();
        int steps = 0;
        Matcher step = STEP.matcher(readme);
        while (step.find()) {
            rows.append(step.group(1)).append(" = ").append(step.group(2)).append("; ");
            steps++;
        }
        Check.holds("the example has steps", steps > 20);
        Run.run("README.md", rows.toString());
    }

    private static void row(String readme, Method m, Document document) {
        Matcher row = Pattern.compile("(?m)^\\| `" + m.getName() + "\\(([^)]*)\\)`(.*)$").matcher(readme);
        boolean isThere = row.find();
        Check.holds("a row for " + m.getName(), isThere);
        if (!isThere) {
            return;
        }
        int named = row.group(1).isEmpty() ? 0 : row.group(1).split(", ").length;
        Check.due("numbers of " + m.getName(), named, m.getParameterCount());
        if (document != null) {
            String promise = document.promiseOf(m.getName());
            Check.holds("refusals of " + m.getName() + " as in: " + promise,
                    refusalsIn(row.group(2)).equals(refusalsIn(promise)));
        }
    }

    private static Set<String> refusalsIn(String text) {
        Set<String> refusals = new TreeSet<>();
        Matcher refusal = REFUSAL.matcher(text);
        while (refusal.find()) {
            refusals.add(refusal.group());
        }
        return refusals;
    }
}
