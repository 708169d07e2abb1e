import java.io.IOException;
import java.lang.reflect.Method;
import java.nio.file.DirectoryStream;
import java.nio.file.Files;
import java.nio.file.Path;
import java.util.HashSet;
import java.util.Set;
import java.util.TreeSet;
import java.util.regex.Matcher;
import java.util.regex.Pattern;

/** README.md: its calls have the answers beside them, and it names the tests that there are. */
public final class ReadmeTest {
    private static final Pattern TEXT =
        Pattern.compile("for \\(char b : \"([^\"]*)\"\\.toCharArray\\(\\)\\) s\\.type\\((\\d), b\\); +// (-?\\d+): .+");
    private static final Pattern CALL = Pattern.compile("s\\.(\\w+)\\(([-\\d, ]*)\\); +// (-?\\d+): .+");
    private static final Pattern HEADING = Pattern.compile("// [a-z ,]+");
    private static final Pattern NAME_OF_TEST = Pattern.compile("`(\\w+Test)`");

    private static final Checks checks = new Checks();

    public static void main(String[] args) throws Exception {
        String readme = Files.readString(Path.of("README.md"));
        calls(readme);
        tests(readme);
        checks.end();
    }

    private static void calls(String readme) throws Exception {
        int start = readme.indexOf("```java\n");
        int end = readme.indexOf("```\n", start + 8);
        checks.due("README.md shows no calls", start >= 0 && end > start);
        if (start < 0 || end < start) {
            return;
        }
        Samovar s = null;
        Set<String> shown = new HashSet<>();
        for (String line : readme.substring(start + 8, end).split("\n")) {
            Matcher text = TEXT.matcher(line);
            Matcher call = CALL.matcher(line);
            if (line.equals("Samovar s = new Samovar();")) {
                s = new Samovar();
            } else if (text.matches()) {
                typed(s, line, text);
                shown.add("type");
            } else if (call.matches()) {
                long got = answer(s, call.group(1), call.group(2));
                checks.due("README.md: " + line + " answered " + got, got == Long.parseLong(call.group(3)));
                shown.add(call.group(1));
            } else {
                checks.due("README.md: no call with its answer: " + line,
                    line.isEmpty() || HEADING.matcher(line).matches());
            }
        }
        checks.due("README.md shows only " + shown, shown.size() >= 35);
    }

    private static void typed(Samovar s, String line, Matcher text) {
        long got = 0;
        for (char b : text.group(1).toCharArray()) {
            got = s.type(Integer.parseInt(text.group(2)), b);
        }
        checks.due("README.md: " + line + " answered " + got, got == Long.parseLong(text.group(3)));
    }

    private static long answer(Samovar s, String name, String arguments) throws Exception {
        String[] words = arguments.isEmpty() ? new String[0] : arguments.split(", ");
        Class<?>[] types = new Class<?>[words.length];
        Object[] values = new Object[words.length];
        for (int i = 0; i < words.length; i++) {
            types[i] = int.class;
            values[i] = Integer.valueOf(words[i]);
        }
        Method method = Samovar.class.getMethod(name, types);
        return ((Number) method.invoke(s, values)).longValue();
    }

    private static void tests(String readme) throws IOException {
        Set<String> named = new TreeSet<>();
        Matcher names = NAME_OF_TEST.matcher(readme);
        while (names.find()) {
            named.add(names.group(1));
        }
        Set<String> there = new TreeSet<>();
        try (DirectoryStream<Path> files = Files.newDirectoryStream(Path.of("src/test/java"), "*Test.java")) {
            for (Path file : files) {
                there.add(file.getFileName().toString().replace(".java", ""));
            }
        }
        checks.due("README.md names the tests " + named + ", there are " + there, named.equals(there));
    }
}
