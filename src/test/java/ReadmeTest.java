import java.io.IOException;
import java.lang.reflect.Method;
import java.nio.file.Files;
import java.nio.file.Path;
import java.util.List;
import java.util.TreeSet;
import java.util.regex.Matcher;
import java.util.regex.Pattern;

/** What README.md shows is done, call by call on one heap, so that it can't become wrong unseen. */
public final class ReadmeTest {
    // Such as: heap.field(0, 0, 1);    // -1   what it does
    private static final Pattern SHOWN = Pattern.compile("heap\\.(\\w+)\\((.*)\\);\\s+// (-?\\d+)\\b.*");
    private static final String START = "ReachedHeap heap = new ReachedHeap();";

    public static void main(String[] args) throws IOException, ReflectiveOperationException {
        Tests tests = new Tests("ReadmeTest");
        List<String> lines = Files.readAllLines(Path.of("README.md"));
        ReachedHeap heap = new ReachedHeap();
        TreeSet<String> shown = new TreeSet<>();
        boolean isCode = false;
        for (String line : lines) {
            if (line.startsWith("```")) {
                isCode = line.equals("```java");
            } else if (isCode && !line.equals(START)) {
                showOne(tests, heap, line, shown);
            }
        }
        tests.test("most calls of the face are shown", () -> tests.due("calls", shown.size() >= 20 ? 1 : 0, 1));
        tests.end();
    }

    private static void showOne(Tests tests, ReachedHeap heap, String line, TreeSet<String> shown)
            throws ReflectiveOperationException {
        Matcher parts = SHOWN.matcher(line);
        if (!parts.matches()) {
            tests.test(line, () -> tests.due("a call with its answer", 0, 1));
            return;
        }
        String[] words = parts.group(2).isEmpty() ? new String[0] : parts.group(2).split(", ");
        Class<?>[] kinds = new Class<?>[words.length];
        Object[] numbers = new Object[words.length];
        for (int i = 0; i < words.length; i++) {
            kinds[i] = int.class;
            numbers[i] = words[i].startsWith("'") ? (int) words[i].charAt(1) : Integer.parseInt(words[i]);
        }
        Method call = ReachedHeap.class.getMethod(parts.group(1), kinds);
        int got = (int) call.invoke(heap, numbers);
        shown.add(parts.group(1));
        int want = Integer.parseInt(parts.group(3));
        tests.test(line, () -> tests.due(line, got, want));
    }
}
