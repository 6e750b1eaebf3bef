import java.io.IOException;
import java.nio.file.Files;
import java.nio.file.Path;
import java.util.ArrayList;
import java.util.LinkedHashMap;
import java.util.List;
import java.util.Map;
import java.util.regex.Matcher;
import java.util.regex.Pattern;

/** The public face as the document writes it. Read from the project's folder. */
final class Face {
    /** Of each method its head as it is written: "int row(int r, int n)". */
    final List<String> heads = new ArrayList<>();
    final Map<String, Integer> constants = new LinkedHashMap<>();
    /** Ahead of which call the interface says something, and what. */
    final Map<String, String> remarks = new LinkedHashMap<>();
    /** Of each promise, by number, the head that it is for. */
    final List<String> promised = new ArrayList<>();

    Face() throws IOException {
        String text = Files.readString(Path.of("../shared/DOC.md"));
        all("(?m)^ {4}public ((?:int|long) \\w+\\([^)]*\\));$", text).forEach(found -> heads.add(found[1]));
        String line = all("public static final int ([^;]*);", text).get(0)[1];
        all("(\\w+) = (-?\\d+)", line).forEach(found -> constants.put(found[1], Integer.parseInt(found[2])));
        all("(?m)^Ahead of the calls `(\\w+)`.* the interface says: (---- .*)\\.$", text)
            .forEach(found -> remarks.put(found[1], found[2]));
        all("(?m)^## Promise \\d+: .*\\n\\n`([^`]*)`:", text).forEach(found -> promised.add(found[1]));
    }

    /** The name alone of a method's head. */
    static String nameOf(String head) {
        return head.substring(head.indexOf(' ') + 1, head.indexOf('('));
    }

    /** A method's head as a call is written: "row(r, n)". */
    static String callOf(String head) {
        return head.substring(head.indexOf(' ') + 1).replace("int ", "");
    }

    /** All places in a text that fit, each with its groups. */
    static List<String[]> all(String pattern, String text) {
        List<String[]> found = new ArrayList<>();
        Matcher matcher = Pattern.compile(pattern).matcher(text);
        while (matcher.find()) {
            String[] groups = new String[matcher.groupCount() + 1];
            for (int i = 0; i < groups.length; i++) {
                groups[i] = matcher.group(i);
            }
            found.add(groups);
        }
        return found;
    }
}
