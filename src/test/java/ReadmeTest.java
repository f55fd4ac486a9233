import java.io.IOException;
import java.lang.reflect.Method;
import java.nio.file.Files;
import java.nio.file.Path;
import java.util.List;
import java.util.regex.Matcher;
import java.util.regex.Pattern;

/** The example in README.md is run row by row, so that it can't come to tell what is no more so. */
public final class ReadmeTest {
    private static final String FIRST_ROW = "LiftGroup group = new LiftGroup();";
    private static final Pattern ROW = Pattern.compile(
            "(?:(?:int|boolean) \\w+ = )?group\\.(\\w+)\\(([^)]*)\\);\\s*(?:// (.*))?");
    private static final Pattern DUE = Pattern.compile("(-?\\d+|true|false): .*");

    public static void main(String[] args) throws IOException {
        List<String> rows = example(Files.readAllLines(Path.of("README.md")));
        LiftGroup group = new LiftGroup();
        for (String row : rows) {
            run(group, row);
        }
        Check.same("README.md has an example", rows.isEmpty() ? 0 : 1, 1);
        Check.end("ReadmeTest");
    }

    /** The rows behind that which makes the group, up to the end of its block. */
    private static List<String> example(List<String> lines) {
        int first = 0;
        while (first < lines.size() && !lines.get(first).startsWith(FIRST_ROW)) {
            first++;
        }
        int end = first;
        while (end < lines.size() && !lines.get(end).startsWith("```")) {
            end++;
        }
        return first < end ? lines.subList(first + 1, end) : List.of();
    }

    private static void run(LiftGroup group, String row) {
        Matcher parts = ROW.matcher(row);
        if (!parts.matches()) {
            Check.same("README.md: " + row, "no call", "a call");
            return;
        }
        String got = answer(group, parts.group(1), parts.group(2).split(", "));
        Matcher due = DUE.matcher(parts.group(3) == null ? "" : parts.group(3));
        boolean asks = row.contains(" = ");
        Check.same("README.md: " + row, got, due.matches() ? due.group(1) : asks ? "told behind it" : "null");
    }

    private static String answer(LiftGroup group, String name, String[] words) {
        for (Method method : LiftGroup.class.getMethods()) {
            if (method.getName().equals(name)) {
                try {
                    return String.valueOf(method.invoke(group, values(words)));
                } catch (ReflectiveOperationException | IllegalArgumentException e) {
                    return e.toString();
                }
            }
        }
        return "no such method";
    }

    private static Object[] values(String[] words) {
        Object[] values = new Object[words.length];
        for (int i = 0; i < words.length; i++) {
            boolean number = words[i].matches("-?\\d+");
            values[i] = number ? (Object) Integer.valueOf(words[i]) : (Object) Boolean.valueOf(words[i]);
        }
        return values;
    }
}
