import java.io.IOException;
import java.lang.reflect.Method;
import java.lang.reflect.Modifier;
import java.nio.charset.StandardCharsets;
import java.nio.file.Files;
import java.nio.file.Path;
import java.util.ArrayList;
import java.util.List;
import java.util.Set;
import java.util.TreeSet;
import java.util.regex.Matcher;
import java.util.regex.Pattern;

/** README.md: each answer of its example, and that its tables name every call and every refusal. */
public final class ReadmeTest {
    private static final Pattern EXAMPLE =
        Pattern.compile("w\\.(\\w+)\\(([-\\w, ]*)\\); +// (-?\\d+|\\w+Exception)\\b.*");
    private static final Pattern TEXT = Pattern.compile("write\\(w, (\\d), \"([^\"]*)\"\\);.*");
    private static final Pattern CALL_ROW = Pattern.compile("\\| `(\\w+)\\(([\\w, ]*)\\)` \\|.*\\|.*\\|");
    private static final Pattern REFUSAL_ROW = Pattern.compile("\\| (-\\d+)( less a FAULT)? \\|.*\\|");
    private static final int LEAST_EXAMPLES = 30;

    private ReadmeTest() {
    }

    public static void main(String[] args) throws IOException {
        List<String> lines = Files.readAllLines(Path.of("README.md"), StandardCharsets.UTF_8);
        example(lines);
        calls(lines);
        refusals(lines);
        testsNamed(lines);
        Due.end();
    }

    private static void example(List<String> lines) {
        DeepWings w = new DeepWings();
        int examples = 0;
        for (String line : lines) {
            Matcher text = TEXT.matcher(line);
            if (text.matches()) {
                Due.text(w, Integer.parseInt(text.group(1)), text.group(2));
            }
            Matcher m = EXAMPLE.matcher(line);
            if (m.matches()) {
                Due.call(w, m.group(3), m.group(1), numbers(m.group(2)));
                examples++;
            } else {
                Due.isTrue("an example that is looked at: " + line, !line.startsWith("w."));
            }
        }
        Due.isTrue("examples", examples >= LEAST_EXAMPLES);
    }

    private static int[] numbers(String list) {
        if (list.isEmpty()) {
            return new int[0];
        }
        String[] parts = list.split(", ");
        int[] numbers = new int[parts.length];
        for (int i = 0; i < parts.length; i++) {
            boolean isWord = parts[i].equals("true") || parts[i].equals("false");
            numbers[i] = isWord ? (parts[i].equals("true") ? 1 : 0) : Integer.parseInt(parts[i]);
        }
        return numbers;
    }

    private static void calls(List<String> lines) {
        Set<String> told = new TreeSet<>();
        for (String line : lines) {
            Matcher m = CALL_ROW.matcher(line);
            if (m.matches()) {
                told.add(m.group(1) + " " + (m.group(2).isEmpty() ? 0 : m.group(2).split(", ").length));
            }
        }
        Set<String> face = new TreeSet<>();
        for (Method m : Call.methods(DeepWings.class).values()) {
            if (Modifier.isPublic(m.getModifiers())) {
                face.add(m.getName() + " " + m.getParameterCount());
            }
        }
        Due.same("the calls that are told", told.toString(), face.toString());
    }

    private static void refusals(List<String> lines) {
        List<String> told = new ArrayList<>();
        for (String line : lines) {
            Matcher m = REFUSAL_ROW.matcher(line);
            if (m.matches()) {
                told.add(m.group(1));
            }
        }
        Due.same("the refusals, in the document's order", told.toString(),
            "[-1, -2, -3, -4, -100, -11, -12, -13, -14, -15]");
    }

    /** Every test of the project is told, and none that isn't there. */
    private static void testsNamed(List<String> lines) throws IOException {
        Set<String> told = new TreeSet<>();
        for (String line : lines) {
            Matcher m = Pattern.compile("`(\\w+Test)`").matcher(line);
            while (m.find()) {
                told.add(m.group(1) + ".java");
            }
        }
        Set<String> there = new TreeSet<>();
        try (var files = Files.newDirectoryStream(Path.of("src/test/java"), "*Test.java")) {
            for (Path file : files) {
                there.add(file.getFileName().toString());
            }
        }
        Due.same("the tests that are told", told.toString(), there.toString());
    }
}
