import java.lang.reflect.Method;
import java.lang.reflect.Modifier;
import java.nio.file.DirectoryStream;
import java.nio.file.Files;
import java.nio.file.Path;
import java.util.Arrays;
import java.util.Set;
import java.util.TreeSet;
import java.util.regex.Matcher;
import java.util.regex.Pattern;

/** README.md says how to use the class as it is, and names the tests that there are; run from the project's folder. */
public final class ReadmeTest {
    private static final Check CHECK = new Check();
    private static final Pattern TEXT = Pattern.compile("\"(.*)\"\\.toCharArray");
    private static final Pattern CALL = Pattern.compile("^town\\.(\\w+)\\((.*)\\); +// (-?\\d+):");

    public static void main(String[] args) throws Exception {
        String page = Files.readString(Path.of("README.md"));
        exampleAnswersAsTold(page);
        eachCallHasItsRow(page);
        eachTestIsNamed(page);
        CHECK.end();
    }

    private static void exampleAnswersAsTold(String page) throws ReflectiveOperationException {
        int start = page.indexOf("```java\n");
        String example = page.substring(start, page.indexOf("```\n", start + 1));
        ReadFromRight town = new ReadFromRight();
        for (String line : example.split("\n")) {
            Matcher text = TEXT.matcher(line);
            Matcher call = CALL.matcher(line);
            if (text.find()) {
                Check.typeAll(town, text.group(1));
            } else if (call.find()) {
                long got = answer(town, call.group(1), call.group(2));
                CHECK.due("README: " + line, got, Long.parseLong(call.group(3)));
            } else {
                CHECK.isTrue("each call tells its answer: " + line, !line.startsWith("town."));
            }
        }
    }

    private static long answer(ReadFromRight town, String name, String list) throws ReflectiveOperationException {
        String[] parts = list.isEmpty() ? new String[0] : list.split(", ");
        Object[] values = new Object[parts.length];
        for (int i = 0; i < parts.length; i++) {
            values[i] = Integer.valueOf(parts[i]);
        }
        Class<?>[] types = new Class<?>[parts.length];
        Arrays.fill(types, int.class);
        return ((Number) ReadFromRight.class.getMethod(name, types).invoke(town, values)).longValue();
    }

    private static void eachCallHasItsRow(String page) {
        for (Method method : ReadFromRight.class.getDeclaredMethods()) {
            if (Modifier.isPublic(method.getModifiers())) {
                Matcher row = Pattern.compile("(?m)^\\| `" + method.getName() + "\\((.*?)\\)` \\|").matcher(page);
                boolean found = row.find();
                CHECK.isTrue("README has a row for " + method.getName(), found);
                int told = !found || row.group(1).isEmpty() ? 0 : row.group(1).split(",").length;
                CHECK.due("parameters of " + method.getName() + " in README", told, method.getParameterCount());
            }
        }
    }

    private static void eachTestIsNamed(String page) throws Exception {
        Set<String> there = new TreeSet<>();
        try (DirectoryStream<Path> files = Files.newDirectoryStream(Path.of("src/test/java"), "*Test.java")) {
            for (Path file : files) {
                there.add(file.getFileName().toString().replace(".java", ""));
            }
        }
        Set<String> named = new TreeSet<>();
        Matcher names = Pattern.compile("`(\\w+Test)`").matcher(page);
        while (names.find()) {
            named.add(names.group(1));
        }
        CHECK.isTrue("README names " + named + ", there are " + there, named.equals(there));
    }
}
