import java.util.ArrayList;
import java.util.Arrays;
import java.util.LinkedHashMap;
import java.util.List;
import java.util.Map;

/** The document's text by promises and paragraphs of the terms, and which of its words were quoted. */
final class Document {
    private static final List<String> TERMS = List.of("Clocks", "Keys", "Seconds", "Bills", "The row", "Votes", "Hours",
        "Texts", "Refusals", "Changes", "Details", "Exceptions");

    private final Map<String, StringBuilder> sections = new LinkedHashMap<>();
    private final Map<String, boolean[]> quoted = new LinkedHashMap<>();
    private String section = "";

    Document(String text) {
        for (String line : text.split("\n")) {
            read(line.strip());
        }
        for (Map.Entry<String, StringBuilder> entry : sections.entrySet()) {
            quoted.put(entry.getKey(), new boolean[entry.getValue().length()]);
        }
    }

    private void read(String line) {
        if (line.startsWith("#")) {
            section = line.replaceFirst("^#+ ", "").replaceFirst("^(Promise [0-9]+):.*", "$1");
            return;
        }
        String rest = line;
        for (String term : TERMS) {
            if (!section.startsWith("Promise") && line.startsWith(term + ". ")) {
                section = term;
                rest = line.substring(term.length() + 2);
            }
        }
        if (section.startsWith("Promise")) {
            // The face has a test of its own, so that its lines need no quoting again.
            rest = rest.replaceFirst("^`[^`]*\\)[^`]*`: ", "").replaceFirst("^- ", "");
        }
        StringBuilder words = sections.computeIfAbsent(section, s -> new StringBuilder());
        words.append(words.length() == 0 || rest.isEmpty() ? "" : " ").append(rest);
    }

    /** Takes down that these words of a section are quoted, and answers whether they stand there. */
    boolean quote(String of, String words) {
        StringBuilder text = sections.get(of);
        int at = text == null ? -1 : text.indexOf(words);
        if (at < 0 || words.isEmpty()) {
            return false;
        }
        for (; at >= 0; at = text.indexOf(words, at + 1)) {
            Arrays.fill(quoted.get(of), at, at + words.length(), true);
        }
        return true;
    }

    /** What was never quoted, and has a letter or a digit. */
    List<String> unquoted() {
        List<String> left = new ArrayList<>();
        for (String of : sections.keySet()) {
            StringBuilder rest = new StringBuilder();
            for (int i = 0; i <= quoted.get(of).length; i++) {
                if (i < quoted.get(of).length && !quoted.get(of)[i]) {
                    rest.append(sections.get(of).charAt(i));
                } else {
                    if (rest.toString().matches(".*[A-Za-z0-9].*")) {
                        left.add(of + ": " + rest.toString().strip());
                    }
                    rest.setLength(0);
                }
            }
        }
        return left;
    }

    String text(String of) {
        return sections.getOrDefault(of, new StringBuilder()).toString();
    }
}
