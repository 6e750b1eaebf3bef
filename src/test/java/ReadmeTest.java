import java.lang.reflect.Method;
import java.nio.file.Files;
import java.nio.file.Path;
import java.util.ArrayList;
import java.util.List;
import java.util.regex.Matcher;
import java.util.regex.Pattern;

/**
 * README.md: its examples answer what stands beside them, and it names every call, constant and test.
 * Run from the project's folder.
 */
public final class ReadmeTest {
    private static final Check CHECK = new Check();
    private static final String MADE = "WeightedLaws w = new WeightedLaws\\(\\);.*";
    private static final Pattern WRITTEN = Pattern.compile("write\\(w, (\\d), \"([^\"]*)\"\\);.*");
    private static final Pattern CALLED = Pattern.compile("w\\.(\\w+)\\(([^)]*)\\);\\s+// (-?\\d+)(:.*)?");

    private static WeightedLaws w = new WeightedLaws();

    public static void main(String[] args) throws Exception {
        String page = Files.readString(Path.of("README.md"));
        examples(page);
        list(page);
        refusals(page);
        tests(page);
        CHECK.end();
    }

    private static void examples(String page) throws ReflectiveOperationException {
        int shown = 0;
        for (String[] block : Face.all("(?s)```java\\n(.*?)```", page)) {
            if (!block[1].startsWith("static ")) {
                shown++;
                for (String line : block[1].split("\n")) {
                    follow(line);
                }
            }
        }
        CHECK.due("examples are there", shown >= 2);
    }

    private static void follow(String line) throws ReflectiveOperationException {
        Matcher written = WRITTEN.matcher(line);
        Matcher called = CALLED.matcher(line);
        if (line.matches(MADE)) {
            w = new WeightedLaws();
        } else if (written.matches()) {
            Check.write(w, Integer.parseInt(written.group(1)), written.group(2));
        } else if (called.matches()) {
            CHECK.due(line, answerOf(called.group(1), called.group(2)), Long.parseLong(called.group(3)));
        } else {
            CHECK.due("a line of an example that is no call with its answer: " + line, false);
        }
    }

    private static long answerOf(String name, String numbers) throws ReflectiveOperationException {
        List<Object> values = new ArrayList<>();
        List<Class<?>> types = new ArrayList<>();
        for (String number : numbers.isEmpty() ? new String[0] : numbers.split(", ")) {
            values.add(Integer.parseInt(number));
            types.add(int.class);
        }
        Method method = WeightedLaws.class.getMethod(name, types.toArray(new Class<?>[0]));
        return ((Number) method.invoke(w, values.toArray())).longValue();
    }

    /** The list has each call once, in the document's order, and no other. */
    private static void list(String page) throws Exception {
        List<String> want = new ArrayList<>();
        for (String head : new Face().heads) {
            want.add(Face.callOf(head));
        }
        List<String> got = new ArrayList<>();
        for (String[] row : Face.all("(?m)^\\| `(\\w+\\([^)]*\\))` \\|", page)) {
            got.add(row[1]);
        }
        CHECK.due("the list has the document's calls: " + got, got.equals(want));
    }

    private static void refusals(String page) throws Exception {
        new Face().constants.forEach((name, value) ->
            CHECK.due(name + " " + value + " is told", page.contains("`" + name + "` " + value)));
    }

    private static void tests(String page) throws Exception {
        try (var files = Files.list(Path.of("src/test/java"))) {
            files.map(file -> file.getFileName().toString()).filter(name -> name.endsWith("Test.java")).forEach(name ->
                CHECK.due(name + " is told", page.contains("`" + name.replace(".java", "") + "`")));
        }
        CHECK.due("how to run them is told", page.contains("`.ci/run`"));
    }
}
