import java.io.IOException;
import java.lang.reflect.Method;
import java.lang.reflect.Modifier;
import java.net.URL;
import java.net.URLClassLoader;
import java.nio.file.Files;
import java.nio.file.Path;
import java.util.ArrayList;
import java.util.List;
import java.util.Map;
import java.util.Set;
import java.util.TreeMap;
import java.util.TreeSet;
import java.util.regex.Matcher;
import java.util.regex.Pattern;
import java.util.stream.Collectors;
import java.util.stream.Stream;
import javax.tools.JavaCompiler;
import javax.tools.ToolProvider;

/** README.md: its Java is compiled and run, its tables are held against the document and against what it runs, its commands are run. */
public final class ReadmeTest {
    private static final Due DUE = new Due("readme");
    private static final Path README = Path.of("README.md");
    private static final Path BUILT = Path.of("build/readme");
    private static final String LAST = "Each call, refused";
    private static final Pattern ANSWERED =
        Pattern.compile("(\\w.*\\));\\s+// (-?\\d+|NONE|HIDDEN|true|false|NoSuchElementException)(: .+)?");
    private static final Pattern ROW = Pattern.compile("\\| `(\\w+)` \\| (\\d+) \\| [^|]+ \\| ([^|]+) \\|");
    private static final Pattern REFUSAL = Pattern.compile("(?<=[.] )(NONE|False|HIDDEN|-2|NoSuchElementException)(:| likewise| for)");

    /** Each call of the page with the answer behind it. */
    private static final List<String> CALLS = new ArrayList<>();
    private static final List<String> WANTED = new ArrayList<>();
    private static final Map<String, Set<String>> REFUSED = new TreeMap<>();
    private static final Set<String> ANSWERS = new TreeSet<>();

    public static void main(String[] args) throws Exception {
        String page = Files.readString(README);
        runsItsJava(page);
        tablesHold(page);
        tellsHowLong(page);
        runsItsCommands(page);
        namesTheTests(page);
        DUE.close();
    }

    /** What stands between the fences of this sort, with the heading above it. */
    private static List<String[]> blocks(String page, String sort) {
        List<String[]> blocks = new ArrayList<>();
        String heading = "";
        StringBuilder block = null;
        for (String line : page.split("\n")) {
            if (block != null && line.equals("```")) {
                blocks.add(new String[] {heading, block.toString()});
                block = null;
            } else if (block != null) {
                block.append(line).append('\n');
            } else if (line.equals("```" + sort)) {
                block = new StringBuilder();
            } else if (line.startsWith("## ")) {
                heading = line.substring(3);
            }
        }
        return blocks;
    }

    private static void runsItsJava(String page) throws Exception {
        StringBuilder members = new StringBuilder();
        StringBuilder body = new StringBuilder();
        for (String[] block : blocks(page, "java")) {
            if (block[1].startsWith("static ")) {
                members.append(block[1]);
            } else {
                for (String line : block[1].split("\n")) {
                    body.append(statement(line, block[0].equals(LAST)));
                }
            }
        }
        String code = "import java.util.*;\npublic final class ReadmeRun {\n" + members
            + "public static List<String> answers() {\nList<String> answers = new ArrayList<>();\n" + body + "return answers;\n}\n}\n";
        Files.createDirectories(BUILT);
        Path file = BUILT.resolve("ReadmeRun.java");
        Files.writeString(file, code);
        JavaCompiler compiler = ToolProvider.getSystemJavaCompiler();
        int failed = compiler == null ? -1 : compiler.run(null, null, null, "-d", BUILT.toString(), "-cp", System.getProperty("java.class.path"), file.toString());
        DUE.is("the page's Java compiles", failed, 0);
        if (failed == 0) {
            List<?> got = run();
            DUE.is("answers", got.size(), CALLS.size());
            for (int i = 0; i < Math.min(got.size(), CALLS.size()); i++) {
                DUE.same(CALLS.get(i), "" + got.get(i), WANTED.get(i));
            }
        }
        DUE.is("calls with answers", CALLS.size() > 100, true);
    }

    private static List<?> run() throws Exception {
        try (URLClassLoader loader = new URLClassLoader(new URL[] {BUILT.toUri().toURL()})) {
            return (List<?>) loader.loadClass("ReadmeRun").getMethod("answers").invoke(null);
        }
    }

    /** A line of the page as a statement that notes what it answers. */
    private static String statement(String line, boolean refused) {
        Matcher m = ANSWERED.matcher(line);
        if (!m.matches()) {
            DUE.is("an object is made or a call is answered: " + line, line.matches("SunDesk \\w+ = new SunDesk\\(\\);"), true);
            return line + "\n";
        }
        CALLS.add(m.group(1));
        WANTED.add(m.group(2).equals("NONE") ? "-1" : m.group(2).equals("HIDDEN") ? "-1000000" : m.group(2));
        note(m.group(1), m.group(2), refused);
        return "try { answers.add(\"\" + " + m.group(1) + "); } catch (NoSuchElementException e) { answers.add(\"NoSuchElementException\"); }\n";
    }

    private static void note(String call, String answer, boolean refused) {
        Matcher name = Pattern.compile("\\w+\\.(\\w+)\\(.*").matcher(call);
        boolean refusal = answer.matches("NONE|HIDDEN|false|-2|NoSuchElementException");
        if (name.matches() && refused && refusal) {
            REFUSED.computeIfAbsent(name.group(1), n -> new TreeSet<>()).add(answer);
        } else if (name.matches()) {
            ANSWERS.add(name.group(1));
        }
    }

    /** Each call stands in one row, with the number of its promise and the refusals of that promise; each is done and refused on the page. */
    private static void tablesHold(String page) throws IOException {
        Set<String> face = new TreeSet<>();
        for (Method m : SunDesk.class.getDeclaredMethods()) {
            if (Modifier.isPublic(m.getModifiers())) {
                face.add(m.getName());
            }
        }
        Set<String> told = new TreeSet<>();
        Matcher row = ROW.matcher(page);
        while (row.find()) {
            String name = row.group(1);
            DUE.is(name + " stands in one row", told.add(name), true);
            DUE.is(name + " is promise " + row.group(2), Document.heads("Promise " + row.group(2), name), true);
            Set<String> refusals = new TreeSet<>(List.of(row.group(3).split(", ")));
            DUE.same(name + " is refused in the document by", "" + refusals, "" + refusals(name, row.group(2)));
            DUE.same(name + " is refused on the page by", "" + refusals, "" + REFUSED.getOrDefault(name, Set.of()));
            DUE.is(name + " is done on the page", ANSWERS.contains(name), true);
        }
        DUE.same("calls in the tables", "" + told, "" + face);
    }

    private static Set<String> refusals(String name, String promise) {
        Set<String> refusals = new TreeSet<>();
        Matcher m = REFUSAL.matcher(Document.section("Promise " + promise));
        while (m.find()) {
            // That there is no FAULT is no refusal.
            if (!name.equals("fault") || !m.group(1).equals("NONE")) {
                refusals.add(m.group(1).equals("False") ? "false" : m.group(1));
            }
        }
        return refusals;
    }

    private static void tellsHowLong(String page) throws IOException {
        Matcher m = Pattern.compile("is used for at most (\\d+) calls after it has been made").matcher(page.replaceAll("\\s+", " "));
        DUE.is("how long an object is used", m.find(), true);
        DUE.is("so says the document", Files.readString(Path.of("../shared/DOC.md")).contains(m.group()), true);
        int calls = Integer.parseInt(m.group(1));
        SunDesk x = Due.hill("p;d;r");
        int left = calls - 4;
        for (int i = 1; i < left; i++) {
            DUE.is("go(1), one of " + calls + " calls", x.go(1), i);
        }
        DUE.is("the last of " + calls + " calls", x.undo(), 39);
    }

    private static void runsItsCommands(String page) throws Exception {
        int commands = 0;
        for (String[] block : blocks(page, "sh")) {
            for (String command : block[1].split("\n")) {
                Process p = new ProcessBuilder("sh", "-c", command).redirectErrorStream(true).start();
                String said = new String(p.getInputStream().readAllBytes());
                DUE.is(command + ": " + said, p.waitFor(), 0);
                commands++;
            }
        }
        DUE.is("commands", commands > 0, true);
        DUE.is(".ci/run is told and can be run", page.contains("`.ci/run`") && Files.isExecutable(Path.of(".ci/run")), true);
    }

    /** Each test is named on the page, alone or by its ending, and each that is named is there. */
    private static void namesTheTests(String page) throws IOException {
        Set<String> tests;
        try (Stream<Path> files = Files.list(Path.of("src/test/java"))) {
            tests = files.map(f -> f.getFileName().toString().replace(".java", "")).filter(n -> n.endsWith("Test")).collect(Collectors.toSet());
        }
        Set<String> named = new TreeSet<>();
        Matcher m = Pattern.compile("`(\\*?\\w+Test)`").matcher(page);
        while (m.find()) {
            String ending = m.group(1).replace("*", "");
            Set<String> meant = tests.stream().filter(t -> m.group(1).startsWith("*") ? t.endsWith(ending) : t.equals(ending)).collect(Collectors.toSet());
            DUE.is(m.group(1) + " is there", meant.isEmpty(), false);
            named.addAll(meant);
        }
        DUE.same("tests on the page", "" + named, "" + new TreeSet<>(tests));
    }
}
