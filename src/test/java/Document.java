import java.io.IOException;
import java.nio.file.Files;
import java.nio.file.Path;
import java.util.LinkedHashMap;
import java.util.Map;

/** The sections of the document, and which of their words a test has quoted. */
final class Document {
    private static final Path PLACE = Path.of("../shared/DOC.md");

    private final Map<String, String> sections = new LinkedHashMap<>();
    private final Map<String, boolean[]> quoted = new LinkedHashMap<>();

    Document() {
        for (String section : textOf(PLACE).split("(?m)^## ")) {
            int end = section.indexOf('\n');
            if (end > 0) {
                add(section.substring(0, end).trim(), section.substring(end));
            }
        }
    }

    private static String textOf(Path place) {
        try {
            return Files.readString(place);
        } catch (IOException missing) {
            System.out.println(place + " can't be read: " + missing);
            return "";
        }
    }

    private void add(String heading, String body) {
        // What the whole is about, and what the interface says ahead of some calls, promises nothing by itself.
        String words = body.replaceAll("(?m)^(Rules with weights: .*|Ahead of the calls .*|```.*)$", "")
            .replaceAll("^\\s*`[^`]*`:", "")
            .replaceAll("=+ [123] ", "")
            .replaceAll("\\s+", " ").trim();
        sections.put(heading, words);
        quoted.put(heading, new boolean[words.length()]);
    }

    Iterable<String> headings() {
        return sections.keySet();
    }

    /** Whether a section has these words; they count as quoted from now on. */
    boolean quote(String heading, String words) {
        String text = sections.getOrDefault(heading, "");
        int first = text.indexOf(words);
        for (int from = first; from >= 0; from = text.indexOf(words, from + 1)) {
            if (markAnew(quoted.get(heading), from, from + words.length())) {
                return true;
            }
        }
        return first >= 0;
    }

    private static boolean markAnew(boolean[] marks, int from, int to) {
        boolean anew = false;
        for (int i = from; i < to; i++) {
            anew |= !marks[i];
            marks[i] = true;
        }
        return anew;
    }

    /** The first words of a section that no test has quoted; empty, if there are none. */
    String leftOut(String heading) {
        String text = sections.getOrDefault(heading, "");
        for (int i = 0; i < text.length(); i++) {
            if (!quoted.get(heading)[i] && Character.isLetterOrDigit(text.charAt(i))) {
                return text.substring(i, Math.min(i + 60, text.length()));
            }
        }
        return "";
    }
}
