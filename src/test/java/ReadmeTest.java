import java.io.IOException;
import java.net.URL;
import java.net.URLClassLoader;
import java.nio.file.Files;
import java.nio.file.Path;
import java.util.ArrayList;
import java.util.Comparator;
import java.util.List;
import java.util.Set;
import java.util.TreeSet;
import java.util.regex.Matcher;
import java.util.regex.Pattern;
import java.util.stream.Stream;
import javax.tools.ToolProvider;

/** README.md: its calls are compiled and run, and answer what it tells; it leaves out no call and no test. */
public final class ReadmeTest {
    private static final String SIGN = "```";
    /** A call, which may be kept under a name, and behind it the answer and perhaps a remark. */
    private static final Pattern ANSWERED =
            Pattern.compile("((?:int \\w+ = )?)(x\\.(\\w+)\\(.*\\)); +// (-?\\d+|[A-Z]+)(: .+)?");
    private static final Pattern UNANSWERED = Pattern.compile("|//.*|LongSeats x = .*;|tell\\(x, \".*\"\\);");
    private static final Check check = new Check();

    private final Path root = Path.of(System.getProperty("project", "."));
    private final String page = Files.readString(root.resolve("README.md"));
    /** The calls of the page with the answers that it tells. */
    private final List<String> calls = new ArrayList<>();
    private final List<Long> told = new ArrayList<>();
    private final Set<String> called = new TreeSet<>();

    private ReadmeTest() throws IOException {
    }

    public static void main(String[] args) throws Exception {
        ReadmeTest test = new ReadmeTest();
        test.answers();
        test.constants();
        test.everyCall();
        test.everyTest();
        check.end("ReadmeTest");
    }

    private void answers() throws Exception {
        StringBuilder members = new StringBuilder();
        StringBuilder statements = new StringBuilder();
        for (String block : blocks("java")) {
            if (block.startsWith("static ")) {
                members.append(block);
            } else {
                block.lines().forEach(line -> statements.append(seeing(line)).append('\n'));
            }
        }
        List<?> given = run("public final class Page {\n"
                + "public static final java.util.List<Long> seen = new java.util.ArrayList<>();\n"
                + "static long see(long answer) { seen.add(answer); return answer; }\n" + members
                + "public static void go() {\n" + statements + "}\n}\n");
        check.due("calls with an answer", given.size(), told.size());
        for (int i = 0; i < given.size() && i < told.size(); i++) {
            check.due(calls.get(i) + " (told in README.md)", (Long) given.get(i), told.get(i));
        }
    }

    private List<String> blocks(String kind) {
        List<String> found = new ArrayList<>();
        Matcher block = Pattern.compile("(?s)" + SIGN + kind + "\n(.*?)" + SIGN + "\n").matcher(page);
        while (block.find()) {
            found.add(block.group(1));
        }
        check.isTrue("there are blocks of " + kind, !found.isEmpty());
        return found;
    }

    /** The line so that what its call answers is seen. */
    private String seeing(String line) {
        Matcher m = ANSWERED.matcher(line);
        if (!m.matches()) {
            check.isTrue("an answer is told: " + line, UNANSWERED.matcher(line).matches());
            return line;
        }
        calls.add(m.group(2));
        called.add(m.group(3));
        told.add(numberOf(m.group(4)));
        return m.group(1) + (m.group(1).isEmpty() ? "" : "(int) ") + "see(" + m.group(2) + ");";
    }

    private static long numberOf(String answer) {
        switch (answer) {
            case "BAD":
                return LongSeats.BAD;
            case "NO":
                return LongSeats.NO;
            case "FULL":
                return LongSeats.FULL;
            case "NONE":
                return LongSeats.NONE;
            default:
                return Long.parseLong(answer);
        }
    }

    private static List<?> run(String code) throws Exception {
        Path dir = Files.createTempDirectory("readme");
        try {
            Path file = Files.writeString(dir.resolve("Page.java"), code);
            int failed = ToolProvider.getSystemJavaCompiler().run(null, null, null,
                    "-cp", System.getProperty("java.class.path"), "-d", dir.toString(), file.toString());
            check.due("javac of README.md's calls", failed, 0);
            if (failed != 0) {
                return List.of();
            }
            try (URLClassLoader loader = new URLClassLoader(new URL[] {dir.toUri().toURL()})) {
                Class<?> made = loader.loadClass("Page");
                made.getMethod("go").invoke(null);
                return (List<?>) made.getField("seen").get(null);
            }
        } finally {
            remove(dir);
        }
    }

    private static void remove(Path dir) throws IOException {
        try (Stream<Path> all = Files.walk(dir)) {
            for (Path path : all.sorted(Comparator.reverseOrder()).toList()) {
                Files.delete(path);
            }
        }
    }

    private void constants() {
        for (String name : new String[] {"BAD", "NO", "FULL", "NONE"}) {
            check.isTrue("README.md tells what " + name + " is",
                    page.contains("`" + name + "` (" + numberOf(name)));
        }
    }

    /** Each call of the document's face stands in the table, with its numbers' names, and is called above. */
    private void everyCall() throws IOException {
        String document = Files.readString(root.resolve("../shared/DOC.md"));
        Matcher face = Pattern.compile("    public (?:int|long) (\\w+)\\((.*)\\);\n").matcher(document);
        Set<String> names = new TreeSet<>();
        Set<String> rows = new TreeSet<>();
        while (face.find()) {
            names.add(face.group(1));
            rows.add(face.group(1) + "(" + face.group(2).replaceAll("(int|long) ", "") + ")");
        }
        check.isTrue("calls in the document's face", names.size() == 28);
        Set<String> table = new TreeSet<>();
        Matcher row = Pattern.compile("(?m)^\\| `([^`]*)` \\| .+ \\|$").matcher(page);
        while (row.find()) {
            table.add(row.group(1));
        }
        check.same("the table of calls", List.copyOf(table), List.copyOf(rows));
        check.same("calls that are shown", List.copyOf(called), List.copyOf(names));
    }

    private void everyTest() throws IOException {
        Set<String> files = new TreeSet<>();
        try (Stream<Path> all = Files.list(root.resolve("src/test/java"))) {
            all.map(path -> path.getFileName().toString()).filter(name -> name.endsWith("Test.java"))
                    .forEach(name -> files.add(name.replace(".java", "")));
        }
        Set<String> named = new TreeSet<>();
        Matcher name = Pattern.compile("`(\\w+Test)`").matcher(page);
        while (name.find()) {
            named.add(name.group(1));
        }
        check.same("the tests that are named", List.copyOf(named), List.copyOf(files));
        for (String path : new String[] {".ci/run", "src/main/java/LongSeats.java", "NOTES.md"}) {
            check.isTrue(path + " is named and there", page.contains(path) && Files.exists(root.resolve(path)));
        }
    }
}
