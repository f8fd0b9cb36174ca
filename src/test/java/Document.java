import java.io.IOException;
import java.nio.file.Files;
import java.nio.file.Path;
import java.util.LinkedHashMap;
import java.util.Map;
import java.util.Set;
import java.util.TreeSet;

/** The document's own words by section: "Terms", "2", "3", "4", "Constants", "Promise 1" to "Promise 38". */
final class Document {
    private static final Path PLACE = Path.of("../shared/DOC.md");
    private static final Set<String> HEADS = new TreeSet<>();
    private static final Map<String, String> SECTIONS = read();

    private Document() {
    }

    /** A section's words with one blank between them, without the line of its method. */
    static String section(String name) {
        return SECTIONS.getOrDefault(name, "");
    }

    static boolean says(String section, String words) {
        return !words.isEmpty() && section(section).contains(words);
    }

    /** Whether the promise is that of this method. */
    static boolean heads(String promise, String method) {
        return HEADS.contains("## " + promise + ": " + method);
    }

    static Iterable<String> sections() {
        return SECTIONS.keySet();
    }

    private static Map<String, String> read() {
        Map<String, StringBuilder> parts = new LinkedHashMap<>();
        StringBuilder part = new StringBuilder();
        try {
            for (String line : Files.readAllLines(PLACE)) {
                String head = head(line);
                if (head != null) {
                    HEADS.add(line);
                    part = parts.computeIfAbsent(head, h -> new StringBuilder());
                }
                if (!line.startsWith("#") && !line.startsWith("```")) {
                    part.append(line.replaceFirst("^==== \\d\\. ", "").replaceFirst("^`[^`]*\\)[^`]*`: ", "")).append(' ');
                }
            }
        } catch (IOException e) {
            throw new IllegalStateException("no document", e);
        }
        Map<String, String> sections = new LinkedHashMap<>();
        parts.forEach((name, words) -> sections.put(name, words.toString().replaceAll("\\s+", " ").trim()));
        sections.remove("");
        return sections;
    }

    /** The name of the section that begins with this line, "" for one that promises nothing; null within one. */
    private static String head(String line) {
        if (line.startsWith("## Promise ")) {
            return line.substring(3, line.indexOf(':'));
        }
        if (line.startsWith("## ") || line.startsWith("# ")) {
            return line.equals("## Terms") ? "Terms" : "";
        }
        if (line.matches("==== \\d\\. .*")) {
            return line.substring(5, 6);
        }
        return line.startsWith("The constants:") ? "Constants" : null;
    }
}
