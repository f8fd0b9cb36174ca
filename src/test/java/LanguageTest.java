import java.io.IOException;
import java.nio.file.Files;
import java.nio.file.Path;
import java.util.List;
import java.util.regex.Matcher;
import java.util.regex.Pattern;

/** What can be seen of LANGUAGE.md's rules in the source's own lines. */
public final class LanguageTest {
    private static final List<String> FORBIDDEN = List.of("->", "::", "\\bfinally\\b", "\\bsynchronized\\b", "\\bassert\\b", "\\bcatch\\b",
        "\\btry\\b", "\\bgoto\\b", "\\bMath\\.\\w+Exact\\b", "\\bSystem\\.(?!arraycopy)", "\\bnew String\\b", "\\bObject\\b", "\\bThread\\b",
        "\\bRandom\\b", "\\bvar\\b", "\\bprotected\\b", "\\bdouble\\b", "\\bfloat\\b", "\\bhashCode\\b", "\\btoString\\b", "\\binstanceof\\b");
    private static final int METHOD_LINES = 60;
    private static final int CLASSES = 12;

    public static void main(String[] args) throws IOException {
        Due due = new Due("language");
        List<String> lines = Files.readAllLines(Path.of(args.length > 0 ? args[0] : "src/main/java/SunDesk.java"));
        String code = String.join("\n", lines).replaceAll("//[^\n]*", "").replaceAll("(?s)/\\*.*?\\*/", "").replaceAll("\"[^\"\n]*\"", "\"\"");
        for (String word : FORBIDDEN) {
            due.is("without " + word, Pattern.compile(word).matcher(code).find(), false);
        }
        for (String line : lines) {
            due.is("plain signs: " + line, line.matches("[\\x20-\\x7e]*") && line.length() <= 140, true);
        }
        Matcher imports = Pattern.compile("import ([^;]*);").matcher(code);
        while (imports.find()) {
            due.is(imports.group(1), imports.group(1).equals("java.util.Arrays") || imports.group(1).equals("java.util.NoSuchElementException"), true);
        }
        Matcher fixed = Pattern.compile("\\bstatic\\b[^;{(]*=").matcher(code);
        while (fixed.find()) {
            due.is("final: " + fixed.group(), fixed.group().contains("final"), true);
        }
        Matcher classes = Pattern.compile("\\b(class|interface|enum|record) \\w+").matcher(code);
        int many = 0;
        while (classes.find()) {
            many++;
        }
        due.is("at most " + CLASSES + " classes, not " + many, many <= CLASSES, true);
        due.is("no empty loop or endless one", Pattern.compile("while \\(true\\)|for \\(;;\\)").matcher(code).find(), false);
        methodsAreShort(due, lines);
        due.close();
    }

    private static void methodsAreShort(Due due, List<String> lines) {
        Pattern head = Pattern.compile("^( {4}| {8})(public |private |static |final )*[\\w\\[\\]]+ \\w+\\(([^)]*)\\).*\\{$");
        for (int i = 0; i < lines.size(); i++) {
            Matcher m = head.matcher(lines.get(i));
            if (m.matches()) {
                int end = i;
                while (!lines.get(end).equals(m.group(1) + "}")) {
                    end++;
                }
                due.is("short: " + lines.get(i), end - i < METHOD_LINES, true);
                due.is("seven parameters at most: " + lines.get(i), m.group(3).split(",").length <= 7, true);
            }
        }
    }
}
