import java.io.IOException;
import java.lang.reflect.Method;
import java.lang.reflect.Modifier;
import java.nio.file.DirectoryStream;
import java.nio.file.Files;
import java.nio.file.Path;
import java.util.HashMap;
import java.util.Map;
import java.util.regex.Matcher;
import java.util.regex.Pattern;

/** README.md keeps true: its example is run line by line, and it names each call and each test. */
public final class ReadmeTest {
    private static final Pattern LINE =
            Pattern.compile("(?:int (\\w+) = )?x\\.(\\w+)\\((.*?)\\);\\s*(?://\\s*(-?\\d+)?.*)?");
    private static final String FIRST_LINE = "StructureRows x = new StructureRows();";
    private static final int LEAST_ANSWERS = 8;

    private static int wrong = 0;

    public static void main(String[] args) throws Exception {
        String text = Files.readString(Path.of("README.md"));
        runExample(text);
        nameEachCall(text);
        nameEachTest(text);
        must(text.contains(".ci/run"), "README.md names .ci/run");
        System.out.println(wrong == 0 ? "README.md is true" : wrong + " things in README.md are not");
        if (wrong != 0) {
            System.exit(1);
        }
    }

    private static void must(boolean holds, String what) {
        if (!holds) {
            wrong++;
            System.out.println("does not hold: " + what);
        }
    }

    private static void runExample(String text) throws ReflectiveOperationException {
        int start = text.indexOf("```java\n") + "```java\n".length();
        String[] lines = text.substring(start, text.indexOf("```", start)).split("\n");
        must(lines[0].equals(FIRST_LINE), "the example begins with a new object");
        StructureRows x = new StructureRows();
        Map<String, Long> names = new HashMap<>();
        int answers = 0;
        for (int i = 1; i < lines.length; i++) {
            answers += runLine(x, lines[i], names);
        }
        must(answers >= LEAST_ANSWERS, "the example tells answers");
    }

    private static int runLine(StructureRows x, String line, Map<String, Long> names)
            throws ReflectiveOperationException {
        Matcher parts = LINE.matcher(line);
        if (!parts.matches()) {
            must(false, "a line of the example can be read: " + line);
            return 0;
        }
        long answer = call(x, parts.group(2), parts.group(3), names);
        if (parts.group(1) != null) {
            names.put(parts.group(1), answer);
        }
        if (parts.group(4) == null) {
            return 0;
        }
        must(answer == Long.parseLong(parts.group(4)), line + " (it answered " + answer + ")");
        return 1;
    }

    private static long call(StructureRows x, String name, String written, Map<String, Long> names)
            throws ReflectiveOperationException {
        String[] words = written.isEmpty() ? new String[0] : written.split(", ");
        Class<?>[] types = new Class<?>[words.length];
        Object[] arguments = new Object[words.length];
        for (int i = 0; i < words.length; i++) {
            types[i] = int.class;
            arguments[i] = names.containsKey(words[i]) ? names.get(words[i]).intValue() : Integer.parseInt(words[i]);
        }
        Object answer = StructureRows.class.getMethod(name, types).invoke(x, arguments);
        return answer instanceof Number number ? number.longValue() : Boolean.TRUE.equals(answer) ? 1 : 0;
    }

    private static void nameEachCall(String text) {
        for (Method method : StructureRows.class.getDeclaredMethods()) {
            if (Modifier.isPublic(method.getModifiers())) {
                String row = "\n\\| `" + method.getName() + "\\((\\w+, ){" + Math.max(0, method.getParameterCount() - 1)
                        + "}" + (method.getParameterCount() > 0 ? "\\w+" : "") + "\\)` \\|";
                must(Pattern.compile(row).matcher(text).find(), "README.md has a row for " + method.getName());
            }
        }
    }

    private static void nameEachTest(String text) throws IOException {
        try (DirectoryStream<Path> tests = Files.newDirectoryStream(Path.of("src/test/java"), "*.java")) {
            for (Path test : tests) {
                String name = test.getFileName().toString().replace(".java", "");
                must(text.contains("\n- `" + name + "`:"), "README.md tells of " + name);
            }
        }
    }
}
