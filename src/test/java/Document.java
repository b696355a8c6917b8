import java.io.IOException;
import java.nio.file.Files;
import java.nio.file.Path;
import java.util.ArrayList;
import java.util.List;
import java.util.Map;
import java.util.TreeMap;

/** The document's sections, and which of their words some test has quoted. */
final class Document {
    private static final Path FILE = Path.of("../shared/DOC.md");

    private final Map<String, String> sections = new TreeMap<>();
    private final Map<String, boolean[]> quoted = new TreeMap<>();

    static boolean isThere() {
        return Files.isReadable(FILE);
    }

    Document() throws IOException {
        for (String part : Files.readString(FILE).split("(?m)^## ")) {
            int end = part.indexOf('\n');
            if (end >= 0) {
                String name = part.substring(0, end).replaceFirst(":.*", "").trim();
                // what stands between backquotes ahead of a promise's words is the call, not a sentence
                String words = part.substring(end).replaceFirst("^\\s*`[^`\n]*`:", "");
                sections.put(name, words);
                quoted.put(name, new boolean[words.length()]);
            }
        }
    }

    /** false: the section has no such words. */
    boolean quote(String section, String words) {
        String all = sections.getOrDefault(section, "");
        int at = firstUnquoted(section, words);
        if (at < 0) {
            at = all.indexOf(words);
        }
        for (int p = 0; at >= 0 && p < words.length(); p++) {
            quoted.get(section)[at + p] = true;
        }
        return at >= 0;
    }

    /** Short words such as UNKNOWN may stand twice in a section, each for a test of its own. */
    private int firstUnquoted(String section, String words) {
        String all = sections.getOrDefault(section, "");
        for (int at = all.indexOf(words); at >= 0; at = all.indexOf(words, at + 1)) {
            if (!quoted.get(section)[at]) {
                return at;
            }
        }
        return -1;
    }

    /** Stretches of "Terms" and of the promises that no test has quoted. */
    List<String> unquoted() {
        List<String> found = new ArrayList<>();
        for (String section : sections.keySet()) {
            if (section.equals("Terms") || section.startsWith("Promise ")) {
                StringBuilder stretch = new StringBuilder();
                for (int p = 0; p < sections.get(section).length(); p++) {
                    char sign = sections.get(section).charAt(p);
                    stretch.append(quoted.get(section)[p] ? '\n' : sign);
                }
                for (String words : stretch.toString().split("\n")) {
                    addIfWords(found, section, words);
                }
            }
        }
        return found;
    }

    private static void addIfWords(List<String> found, String section, String words) {
        boolean isMark = words.startsWith("Ahead of the calls") || words.startsWith("```") || words.startsWith("====");
        if (!isMark && words.matches(".*[A-Za-z0-9].*")) {
            found.add(section + ": " + words.trim());
        }
    }
}
