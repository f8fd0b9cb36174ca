import java.io.IOException;
import java.nio.file.DirectoryStream;
import java.nio.file.Files;
import java.nio.file.Path;
import java.util.BitSet;
import java.util.Map;
import java.util.TreeMap;
import java.util.regex.Matcher;
import java.util.regex.Pattern;

/**
 * Each sentence of the document that names a boundary case is quoted by a test of its own: every number in it, and every word for
 * what is none, refused, most, least or first, stands in words that a test quotes. (What is refused is told apart by RefusedTest.)
 */
public final class SentencesTest {
    private static final Path TESTS = Path.of("src/test/java");
    private static final Pattern QUOTE = Pattern.compile("DUE\\.says\\(\"([^\"]+)\",\\s*((?:\"[^\"]*\"\\s*(?:\\+\\s*)?)+)\\)");
    private static final Pattern ITEM = Pattern.compile("()\\bitem\\((\"[^\"]+\")");
    private static final Pattern REFUSAL = Pattern.compile("(?<=[.] )(NONE|False|HIDDEN|-2|NoSuchElementException)(:| likewise| for)[^.]*\\.");
    private static final Pattern BOUNDARY = Pattern.compile("\\d+|\\b(NONE|HIDDEN|False|refused|none|nowhere|at most|latest|lowest|least|fewest|earliest|"
        + "the first|the last|highest|beyond|below|above|ahead of|or later|too early|out of bounds|not told|going round|cut|once|empty|any order|"
        + "always|more|most|without|no such|only|alone|as far as)\\b");

    private final Due due = new Due("sentences");
    private final Map<String, BitSet> quoted = new TreeMap<>();

    public static void main(String[] args) throws IOException {
        new SentencesTest().check();
    }

    private void check() throws IOException {
        for (String section : Document.sections()) {
            quoted.put(section, new BitSet());
        }
        due.is("sections", quoted.size(), 43);
        try (DirectoryStream<Path> files = Files.newDirectoryStream(TESTS, "{*EdgeTest,RefusedTest}.java")) {
            for (Path file : files) {
                String code = Files.readString(file);
                quotes(QUOTE.matcher(code));
                quotes(ITEM.matcher(code));
            }
        }
        for (String section : Document.sections()) {
            String words = Document.section(section);
            if (section.startsWith("Promise")) {
                mark(section, REFUSAL.matcher(words));
            }
            Matcher m = BOUNDARY.matcher(words);
            while (m.find()) {
                boolean whole = quoted.get(section).get(m.start(), m.end()).cardinality() == m.end() - m.start();
                String around = words.substring(Math.max(m.start() - 40, 0), Math.min(m.end() + 40, words.length()));
                due.same("without a test in " + section, whole ? "" : around, "");
            }
        }
        due.close();
    }

    private void quotes(Matcher quote) {
        while (quote.find()) {
            String section = quote.group(1).isEmpty() ? "Terms" : quote.group(1);
            String words = quote.group(2).replaceAll("\"\\s*\\+\\s*\"", "").replace("\"", "").trim();
            mark(section, Pattern.compile(words, Pattern.LITERAL).matcher(Document.section(section)));
        }
    }

    private void mark(String section, Matcher found) {
        while (found.find()) {
            quoted.get(section).set(found.start(), found.end());
        }
    }
}
