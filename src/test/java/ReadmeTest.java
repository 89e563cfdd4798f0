import java.lang.reflect.Method;
import java.net.URL;
import java.net.URLClassLoader;
import java.nio.file.Files;
import java.nio.file.Path;
import java.util.ArrayList;
import java.util.List;
import java.util.Map;
import java.util.Set;
import java.util.TreeMap;
import java.util.TreeSet;
import java.util.regex.Matcher;
import java.util.regex.Pattern;
import java.util.stream.Stream;
import javax.tools.ToolProvider;

/** What README.md says: its examples are run, and its tables are held against the class and the tests. */
public final class ReadmeTest {
    private static final Check check = new Check("ReadmeTest");
    private static final int MOST_CALLS = 300;
    private static final Pattern EXAMPLE = Pattern.compile("(?s)```java\n(.*?)```");
    private static final Pattern ANSWERED = Pattern.compile("(int \\w+ = )?(x\\.(\\w+)\\(.*\\)); +// (-?\\d+)(:.*)?");
    private static final Pattern CALL_ROW = Pattern.compile("(?m)^\\| `(\\w+)\\((.*?)\\)` \\| .* \\| ?([A-Z, ]*)\\|$");
    private static final Pattern FINDING_ROW = Pattern.compile("(?m)^\\| ([A-Z]+) \\| (-\\d+) \\|");
    private static final Pattern HEAD = Pattern.compile("(?m)^    public (?:int|long) (\\w+)\\((.*?)\\) \\{$");
    private static final String[] FINDINGS = {"", "BEYOND", "NONE", "STATE", "FULL", "KIND"};

    private final String page = Files.readString(Path.of("README.md"));

    private ReadmeTest() throws Exception {
    }

    public static void main(String[] args) throws Exception {
        ReadmeTest t = new ReadmeTest();
        t.examples();
        t.numbersOfFindings();
        t.headsOfCalls();
        t.findingsOfCalls();
        t.namesOfTests();
        check.end();
    }

    /** All examples become one class, each a method; it is compiled, so that they are Java as they stand. */
    private void examples() throws Exception {
        StringBuilder source = new StringBuilder("public final class Examples {\n");
        Set<String> shown = new TreeSet<>();
        int count = 0;
        Matcher example = EXAMPLE.matcher(page);
        while (example.find()) {
            source.append("public static void run").append(count++).append("(java.util.List<String> asked,"
                    + " java.util.List<Long> got, java.util.List<Long> want) {\n");
            for (String line : example.group(1).split("\n")) {
                source.append(statement(line, shown)).append('\n');
            }
            source.append("}\n");
        }
        source.append("}\n");
        runAll(source.toString(), count);
        for (Method m : Numbers.calls()) {
            check.holds("an example shows " + m.getName(), shown.contains(m.getName()));
        }
    }

    private static String statement(String line, Set<String> shown) {
        Matcher answered = ANSWERED.matcher(line);
        if (!answered.matches()) {
            check.holds("an answer is told: " + line,
                    line.equals("TrainMile x = new TrainMile();") || line.startsWith("for ("));
            return line;
        }
        shown.add(answered.group(3));
        String keep = answered.group(1) == null ? "" : answered.group(1) + "(int) got.get(got.size() - 1).longValue();";
        return "asked.add(\"" + answered.group(2) + "\"); got.add((long) " + answered.group(2)
                + "); want.add(" + answered.group(4) + "L);" + keep;
    }

    private static void runAll(String source, int count) throws Exception {
        Path room = Files.createTempDirectory("readme");
        Path file = room.resolve("Examples.java");
        Files.writeString(file, source);
        String classes = System.getProperty("java.class.path");
        int failed = ToolProvider.getSystemJavaCompiler().run(null, null, null,
                "-cp", classes, "-d", room.toString(), file.toString());
        check.due("compiling the examples", failed, 0);
        if (failed == 0) {
            try (URLClassLoader loader = new URLClassLoader(new URL[] {room.toUri().toURL()})) {
                Class<?> examples = loader.loadClass("Examples");
                for (int i = 0; i < count; i++) {
                    compare(i, examples.getMethod("run" + i, List.class, List.class, List.class));
                }
            }
        }
        for (String left : new String[] {"Examples.class", "Examples.java", ""}) {
            Files.deleteIfExists(room.resolve(left));
        }
    }

    private static void compare(int i, Method run) throws Exception {
        List<String> asked = new ArrayList<>();
        List<Long> got = new ArrayList<>();
        List<Long> want = new ArrayList<>();
        run.invoke(null, asked, got, want);
        for (int k = 0; k < asked.size(); k++) {
            check.due("example " + i + ": " + asked.get(k), got.get(k), want.get(k));
        }
        check.holds("example " + i + " makes calls", !asked.isEmpty());
    }

    private void numbersOfFindings() {
        Map<String, Integer> told = new TreeMap<>();
        Matcher row = FINDING_ROW.matcher(page);
        while (row.find()) {
            told.put(row.group(1), Integer.parseInt(row.group(2)));
        }
        check.holds("the findings are " + told, told.equals(Map.of("BEYOND", Check.BEYOND, "NONE", Check.NONE,
                "STATE", Check.STATE, "FULL", Check.FULL, "KIND", Check.KIND)));
    }

    private void headsOfCalls() throws Exception {
        Map<String, String> due = new TreeMap<>();
        Matcher head = HEAD.matcher(Files.readString(Path.of("src/main/java/TrainMile.java")));
        while (head.find()) {
            due.put(head.group(1), head.group(2).replaceAll("(int|long|boolean) ", ""));
        }
        check.due("calls in the source", due.size(), Numbers.calls().size());
        Map<String, String> told = new TreeMap<>();
        Matcher row = CALL_ROW.matcher(page);
        while (row.find()) {
            check.holds(row.group(1) + " is told once", told.put(row.group(1), row.group(2)) == null);
        }
        check.holds("the calls are " + due + ", but it tells " + told, told.equals(due));
    }

    /** The findings that a row names are those that the call answers, with numbers of every size. */
    private void findingsOfCalls() throws Exception {
        Map<String, Set<String>> told = new TreeMap<>();
        Matcher row = CALL_ROW.matcher(page);
        while (row.find()) {
            String findings = row.group(3).trim();
            told.put(row.group(1), findings.isEmpty() ? Set.of() : new TreeSet<>(List.of(findings.split(", "))));
        }
        for (Method m : Numbers.calls()) {
            Set<String> seen = new TreeSet<>();
            findAll(Worlds::fresh, m, seen);
            findAll(Worlds::busy, m, seen);
            findAll(Worlds::full, m, seen);
            findAll(ReadmeTest::withShortSheet, m, seen);
            Set<String> due = told.getOrDefault(m.getName(), Set.of());
            check.holds(m.getName() + " answers " + seen + ", it tells " + due, seen.equals(due));
        }
    }

    private static TrainMile withShortSheet() {
        TrainMile x = Worlds.busy();
        x.sheet(0, 32, 1);
        return x;
    }

    private static void findAll(Edge.World world, Method m, Set<String> seen) throws Exception {
        List<Object[]> rows = Numbers.rowsFor(m);
        for (int from = 0; from < rows.size(); from += MOST_CALLS) {
            TrainMile x = world.make();
            int[] ahead = Edge.foundBy(x);
            for (int i = from; i < Math.min(rows.size(), from + MOST_CALLS); i++) {
                m.invoke(x, rows.get(i));
            }
            int[] behind = Edge.foundBy(x);
            for (int k = 1; k < FINDINGS.length; k++) {
                if (behind[k] > ahead[k]) {
                    seen.add(FINDINGS[k]);
                }
            }
        }
    }

    private void namesOfTests() throws Exception {
        Set<String> told = new TreeSet<>();
        Matcher name = Pattern.compile("`(\\w+Test)`").matcher(page);
        while (name.find()) {
            told.add(name.group(1));
        }
        Set<String> there = new TreeSet<>();
        try (Stream<Path> files = Files.list(Path.of("src/test/java"))) {
            files.map(f -> f.getFileName().toString()).filter(f -> f.endsWith("Test.java"))
                    .forEach(f -> there.add(f.replace(".java", "")));
        }
        check.holds("the tests are " + there + ", but it tells " + told, told.equals(there));
    }
}
