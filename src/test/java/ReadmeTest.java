import java.io.IOException;
import java.lang.reflect.Method;
import java.net.URL;
import java.net.URLClassLoader;
import java.nio.file.Files;
import java.nio.file.Path;
import java.util.Comparator;
import java.util.List;
import java.util.Set;
import java.util.TreeSet;
import java.util.regex.Matcher;
import java.util.regex.Pattern;
import java.util.stream.Stream;
import javax.tools.ToolProvider;

/** README.md's examples, compiled as they stand there: each call has the answer that stands behind it. */
public final class ReadmeTest {
    private static final Path README = Path.of("README.md");
    private static final String PROGRAM = "ReadmeExamples";
    private static final int CALLS_AT_MOST = 512;
    private static final int KINDS_OF_LINES = 5;
    /** A call with its answer, and what is said of it. */
    private static final Pattern EXAMPLE = Pattern.compile("(bath\\.(\\w+)\\(.*\\)); *// (-?[\\d,]+): \\S.*");
    private static final Pattern TABLE_ROW = Pattern.compile("\\| (-[\\d,]+) \\|.*");
    private static final Pattern LINE_ROW = Pattern.compile("\\| `([a-z][^`]*;)` \\|.*");
    private static final String HEAD = "public final class " + PROGRAM + " {\n"
            + "  private static int wrong = 0;\n"
            + "  private static void due(int line, String call, long got, long want) {\n"
            + "    if (got != want) {\n"
            + "      wrong++;\n"
            + "      System.out.println(\"README.md:\" + line + \": \" + call + \" answered \" + got + \", it says \" + want);\n"
            + "    }\n"
            + "  }\n";

    private final List<String> lines;
    private final StringBuilder members = new StringBuilder();
    private final StringBuilder statements = new StringBuilder();
    private final Set<String> shown = new TreeSet<>();
    private final Set<String> answersBelowZero = new TreeSet<>();
    private final Set<String> tableBelowZero = new TreeSet<>();
    private final Set<String> tableOfLines = new TreeSet<>();
    private int examples = 0;
    private int wrong = 0;

    private ReadmeTest(List<String> lines) {
        this.lines = lines;
    }

    public static void main(String[] args) throws Exception {
        ReadmeTest test = new ReadmeTest(Files.readAllLines(README));
        test.readPage();
        test.holdPage();
        if (test.wrong == 0) {
            test.runProgram();
        }
        System.out.println(test.examples + " examples, " + test.wrong + " not as README.md says");
        if (test.wrong != 0) {
            System.exit(1);
        }
    }

    private void complain(String what) {
        wrong++;
        System.out.println("README.md: " + what);
    }

    /** A block that begins with "static" is a method of the program; all others are what it does, in their order. */
    private void readPage() {
        boolean inBlock = false;
        boolean ofMembers = false;
        boolean inText = false;
        for (int i = 0; i < lines.size(); i++) {
            String line = lines.get(i);
            if (line.startsWith("```")) {
                inBlock = !inBlock && line.equals("```java");
                ofMembers = inBlock && i + 1 < lines.size() && lines.get(i + 1).startsWith("static ");
            } else if (ofMembers && inBlock) {
                members.append("  ").append(line).append('\n');
            } else if (inBlock) {
                inText ^= (line.length() - line.replace("\"\"\"", "").length()) % 2 != 0;
                statements.append(inText ? line : statement(i + 1, line)).append('\n');
            } else {
                readRow(line);
            }
        }
    }

    private void readRow(String line) {
        Matcher below = TABLE_ROW.matcher(line);
        if (below.matches()) {
            tableBelowZero.add(below.group(1));
        }
        Matcher ofLand = LINE_ROW.matcher(line);
        if (ofLand.matches()) {
            tableOfLines.add(ofLand.group(1));
        }
    }

    private String statement(int number, String line) {
        Matcher example = EXAMPLE.matcher(line);
        if (!example.matches()) {
            if (line.contains("bath.")) {
                complain("line " + number + " has a call without an answer: " + line);
            }
            return line;
        }
        examples++;
        shown.add(example.group(2));
        if (example.group(3).startsWith("-")) {
            answersBelowZero.add(example.group(3));
        }
        String call = example.group(1);
        return "due(" + number + ", \"" + call.replace("\"", "\\\"") + "\", " + call + ", "
                + example.group(3).replace(",", "") + "L);";
    }

    private void holdPage() {
        Set<String> face = new TreeSet<>();
        for (Method m : SaysBath.class.getDeclaredMethods()) {
            if (java.lang.reflect.Modifier.isPublic(m.getModifiers())) {
                face.add(m.getName());
            }
        }
        if (!shown.equals(face)) {
            face.removeAll(shown);
            complain("no example of " + face);
        }
        if (!tableBelowZero.equals(answersBelowZero)) {
            complain("its table tells of " + tableBelowZero + ", its examples have " + answersBelowZero);
        }
        for (String line : tableOfLines) {
            if (statements.indexOf(line) < 0) {
                complain("no example has the LINE " + line);
            }
        }
        if (tableOfLines.size() != KINDS_OF_LINES) {
            complain("it tells of " + tableOfLines.size() + " kinds of LINES");
        }
        String page = String.join("\n", lines);
        for (String due : new String[] {"new SaysBath()", CALLS_AT_MOST + " calls", ".ci/run", "## The MAP",
            "## LINES and AREAS", "## What is HEARD", "## What is NOTED, and its ODDS", "## ASKERS", "## IMAGES", "## SLOTS"}) {
            if (!page.contains(due)) {
                complain("it does not tell of " + due);
            }
        }
        for (String test : testsOfTheProject()) {
            if (!page.contains("`" + test + "`")) {
                complain("it does not tell of " + test);
            }
        }
    }

    private List<String> testsOfTheProject() {
        try (Stream<Path> files = Files.list(Path.of("src/test/java"))) {
            return files.map(f -> f.getFileName().toString()).filter(f -> f.endsWith("Test.java"))
                    .map(f -> f.replace(".java", "")).sorted().toList();
        } catch (IOException e) {
            complain("no tests: " + e);
            return List.of();
        }
    }

    private void runProgram() throws Exception {
        Path folder = Files.createTempDirectory("readme");
        try {
            Path source = folder.resolve(PROGRAM + ".java");
            Files.writeString(source, HEAD + members + "  public static int run() {\n" + statements
                    + "    return wrong;\n  }\n}\n");
            int failed = ToolProvider.getSystemJavaCompiler().run(null, null, null, "-d", folder.toString(), "-cp",
                    System.getProperty("java.class.path"), source.toString());
            if (failed != 0) {
                complain("its examples don't compile");
                return;
            }
            try (URLClassLoader loader = new URLClassLoader(new URL[] {folder.toUri().toURL()})) {
                wrong += (int) loader.loadClass(PROGRAM).getMethod("run").invoke(null);
            }
        } finally {
            remove(folder);
        }
    }

    private static void remove(Path folder) throws IOException {
        try (Stream<Path> files = Files.walk(folder)) {
            for (Path file : files.sorted(Comparator.reverseOrder()).toList()) {
                Files.delete(file);
            }
        }
    }
}
