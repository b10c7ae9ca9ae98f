import java.io.IOException;
import java.lang.reflect.Method;
import java.lang.reflect.Modifier;
import java.nio.file.DirectoryStream;
import java.nio.file.Files;
import java.nio.file.Path;
import java.util.Arrays;
import java.util.List;
import java.util.Set;
import java.util.TreeSet;
import java.util.regex.Matcher;
import java.util.regex.Pattern;

/** README.md tells what holds: its example's answers, a row for each call with its codes, a row for each test. */
public final class ReadmeTest {
    private static final Pattern EXAMPLE = Pattern.compile("rows\\.(\\w+)\\((.*?)\\); +// (-?\\d+): .*");
    private static final Pattern CALL = Pattern.compile("\\| `(\\w+)\\((.*?)\\)` \\|.*\\|([^|]*)\\|");
    private static final Pattern TEST = Pattern.compile("\\| `(\\w+Test)` \\|.*");

    public static void main(String[] args) throws IOException, ReflectiveOperationException {
        List<String> lines = Files.readAllLines(Path.of("README.md"));
        Check c = new Check("README.md");
        example(c, lines);
        calls(c, lines);
        tests(c, lines);
        Check.end();
    }

    private static void example(Check c, List<String> lines) throws ReflectiveOperationException {
        int begin = lines.indexOf("```java");
        c.due("an example stands there", begin >= 0 ? 1 : 0, 1);
        c.due("it makes an object", lines.get(begin + 1).equals("CopyRows rows = new CopyRows();") ? 1 : 0, 1);
        for (int at = begin + 2; !lines.get(at).equals("```"); at++) {
            Matcher line = EXAMPLE.matcher(lines.get(at));
            boolean told = line.matches();
            c.due("an answer is told: " + lines.get(at), told ? 1 : 0, 1);
            if (told) {
                c.due(lines.get(at), answer(c.x, line.group(1), line.group(2)), Integer.parseInt(line.group(3)));
            }
        }
    }

    private static int answer(CopyRows x, String name, String written) throws ReflectiveOperationException {
        String[] numbers = split(written);
        Class<?>[] types = new Class<?>[numbers.length];
        Arrays.fill(types, int.class);
        Object[] given = new Object[numbers.length];
        for (int t = 0; t < numbers.length; t++) {
            given[t] = Integer.valueOf(numbers[t]);
        }
        return (Integer) CopyRows.class.getMethod(name, types).invoke(x, given);
    }

    private static String[] split(String written) {
        return written.isEmpty() ? new String[0] : written.split(", ");
    }

    private static void calls(Check c, List<String> lines) {
        Set<String> told = new TreeSet<>();
        for (String line : lines) {
            Matcher row = CALL.matcher(line);
            if (row.matches()) {
                told.add(row.group(1) + " " + split(row.group(2)).length);
                leavesCode(c, row.group(1), split(row.group(2)).length, row.group(3).isBlank());
            }
        }
        Set<String> there = new TreeSet<>();
        for (Method method : CopyRows.class.getDeclaredMethods()) {
            if (Modifier.isPublic(method.getModifiers())) {
                there.add(method.getName() + " " + method.getParameterCount());
            }
        }
        c.due("the calls " + told, told.equals(there) ? 1 : 0, 1);
    }

    /** A call with codes in the table tells one; a call without leaves the CODE that stood there. */
    private static void leavesCode(Check c, String name, int parameters, boolean without) {
        CopyRows x = new CopyRows();
        x.lump(1);
        x.length(1);
        int[] zeros = new int[parameters];
        try {
            answer(x, name, Arrays.toString(zeros).replace("[", "").replace("]", ""));
        } catch (ReflectiveOperationException e) {
            c.due(name + " can be called", 0, 1);
        }
        // The lump's CODE was 5; with all PLACES named 0, which holds NOTHING, no call tells 5 itself.
        c.due(name + " leaves CODE", x.code() == 5 ? 1 : 0, without ? 1 : 0);
    }

    private static void tests(Check c, List<String> lines) throws IOException {
        Set<String> told = new TreeSet<>();
        for (String line : lines) {
            Matcher row = TEST.matcher(line);
            if (row.matches()) {
                told.add(row.group(1) + ".java");
            }
        }
        Set<String> there = new TreeSet<>();
        try (DirectoryStream<Path> files = Files.newDirectoryStream(Path.of("src/test/java"), "*Test.java")) {
            for (Path file : files) {
                there.add(file.getFileName().toString());
            }
        }
        c.due("the tests " + told + ", there are " + there, told.equals(there) ? 1 : 0, 1);
    }
}
