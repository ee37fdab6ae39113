import java.io.File;
import java.io.IOException;
import java.lang.reflect.Field;
import java.lang.reflect.Method;
import java.lang.reflect.Modifier;
import java.net.URL;
import java.net.URLClassLoader;
import java.nio.file.Files;
import java.nio.file.Path;
import java.util.ArrayList;
import java.util.Comparator;
import java.util.List;
import java.util.Map;
import java.util.Set;
import java.util.TreeMap;
import java.util.TreeSet;
import java.util.regex.Matcher;
import java.util.regex.Pattern;
import java.util.stream.Stream;
import javax.tools.JavaCompiler;
import javax.tools.ToolProvider;

/** README.md: its examples are compiled and run, and what its tables name is what there is. Runs in the project's folder. */
public final class ReadmeTest {
    private static final Path README = Path.of("README.md");
    private static final Path TESTS = Path.of("src/test/java");
    private static final String EXAMPLES = "ReadmeExamples";
    private static final Set<String> REFUSALS = Set.of("BAD", "STATE", "FULL", "NO");

    private static final Pattern CALL = Pattern.compile("bridge\\.(\\w+)\\(");
    /** A call with its answer: a number, or a constant with its number in brackets; what stands behind a colon is for the reader. */
    private static final Pattern ANSWERED = Pattern.compile(
        "(bridge\\.(\\w+)\\(.*\\)); +// (?:(-?\\d+)|([A-Z]+) \\((-?\\d+)\\))(?:: .*)?");
    private static final Pattern CALL_ROW = Pattern.compile("\\| `(\\w+)\\((.*?)\\)` \\|.*\\|([^|]*)\\|");
    private static final Pattern CONSTANT_ROW = Pattern.compile("\\| `([A-Z]+)` \\| (-?\\d+) \\|.*");
    private static final Pattern TEST_NAME = Pattern.compile("`(\\w+Test)`");
    private static final Pattern CONSTANT_NAME = Pattern.compile("`([A-Z]+)`");

    private final List<String> lines;
    private final StringBuilder helpers = new StringBuilder();
    private final StringBuilder examples = new StringBuilder();
    private final Set<String> answeredCalls = new TreeSet<>();
    /** By the name of a call: what it is shown to be refused by, and what its table says. */
    private final Map<String, Set<String>> shownRefusals = new TreeMap<>();
    private final Map<String, Set<String>> toldRefusals = new TreeMap<>();

    private ReadmeTest(List<String> lines) {
        this.lines = lines;
    }

    public static void main(String[] args) throws IOException, ReflectiveOperationException {
        ReadmeTest test = new ReadmeTest(Files.readAllLines(README));
        test.readBlocks();
        test.runExamples();
        test.callsAreTold();
        test.refusalsAreShown();
        test.constantsAreTold();
        test.testsAreTold();
        Check.end();
    }

    private static void wrong(String what) {
        Check.due("README.md: " + what, 1, 0);
    }

    private static void same(String what, Object told, Object there) {
        if (!told.equals(there)) {
            wrong(what + " are " + told + ", there are " + there);
        }
    }

    // ---- the examples

    private void readBlocks() {
        for (int i = 0; i < lines.size(); i++) {
            if (lines.get(i).equals("```java")) {
                i = readBlock(i + 1);
            }
        }
    }

    /** Where the block ends. A block that begins with a method is a helper of those behind it. */
    private int readBlock(int first) {
        boolean isHelper = lines.get(first).startsWith("static ");
        StringBuilder into = isHelper ? helpers : examples;
        into.append(isHelper ? "" : "{\n");
        int at = first;
        while (at < lines.size() && !lines.get(at).equals("```")) {
            into.append(isHelper ? lines.get(at) : checked(at)).append('\n');
            at++;
        }
        into.append(isHelper ? "" : "}\n");
        return at;
    }

    /** The line as it is run: a call whose answer is told is one whose answer is due. */
    private String checked(int at) {
        String line = lines.get(at);
        Matcher matcher = ANSWERED.matcher(line);
        if (matcher.matches()) {
            return dueOf(at, matcher);
        }
        boolean again = lines.get(at - 1).startsWith("for (");
        if (CALL.matcher(line).find() && !again || line.contains("//")) {
            wrong("line " + (at + 1) + " tells no answer: " + line);
        }
        return line;
    }

    private String dueOf(int at, Matcher answered) {
        String call = answered.group(1);
        String name = answered.group(2);
        String constant = answered.group(4);
        String number = constant == null ? answered.group(3) : answered.group(5);
        answeredCalls.add(name);
        if (REFUSALS.contains(constant == null ? "" : constant)) {
            shownRefusals.computeIfAbsent(name, key -> new TreeSet<>()).add(constant);
        }
        String told = "\"README.md line " + (at + 1) + ", " + call.replace("\\", "\\\\").replace("\"", "\\\"") + "\"";
        String due = dueLine(told, call, number);
        return constant == null ? due : due + dueLine(told, "WoolBridge." + constant, number);
    }

    private static String dueLine(String told, String got, String number) {
        return "ReadmeTest.due(" + told + ", " + got + ", " + number + "L); ";
    }

    private void runExamples() throws IOException, ReflectiveOperationException {
        Path folder = Files.createTempDirectory("readme");
        try {
            compileIn(folder);
            URL[] where = {folder.toUri().toURL()};
            try (URLClassLoader loader = new URLClassLoader(where, ReadmeTest.class.getClassLoader())) {
                loader.loadClass(EXAMPLES).getMethod("run").invoke(null);
            }
        } finally {
            remove(folder);
        }
    }

    private void compileIn(Path folder) throws IOException {
        Path source = folder.resolve(EXAMPLES + ".java");
        Files.writeString(source, "public final class " + EXAMPLES + " {\n" + helpers
            + "public static void run() {\n" + examples + "}\n}\n");
        JavaCompiler compiler = ToolProvider.getSystemJavaCompiler();
        if (compiler == null) {
            throw new IllegalStateException("this java has no compiler: a JDK is needed");
        }
        String classes = System.getProperty("java.class.path");
        if (compiler.run(null, System.out, System.out, "-cp", classes, "-d", folder.toString(), source.toString()) != 0) {
            throw new IllegalStateException("the examples of README.md do not compile");
        }
    }

    /** Public, since the examples come by another loader and can't see Check. */
    public static void due(String call, long got, long want) {
        Check.due(call, got, want);
    }

    private static void remove(Path folder) throws IOException {
        try (Stream<Path> files = Files.walk(folder)) {
            files.sorted(Comparator.reverseOrder()).map(Path::toFile).forEach(File::delete);
        }
    }

    // ---- the tables

    private void callsAreTold() {
        Map<String, Integer> told = new TreeMap<>();
        for (String line : lines) {
            Matcher row = CALL_ROW.matcher(line);
            if (row.matches()) {
                int parameters = row.group(2).isEmpty() ? 0 : row.group(2).split(", ").length;
                if (told.put(row.group(1), parameters) != null) {
                    wrong("told twice: " + row.group(1));
                }
                Set<String> refusals = namesIn(CONSTANT_NAME, row.group(3));
                if (!refusals.isEmpty()) {
                    toldRefusals.put(row.group(1), refusals);
                }
            }
        }
        Map<String, Integer> there = new TreeMap<>();
        for (Method method : WoolBridge.class.getDeclaredMethods()) {
            if (Modifier.isPublic(method.getModifiers())) {
                there.put(method.getName(), method.getParameterCount());
            }
        }
        same("the calls that are told, with how many numbers they take,", told, there);
        same("the calls that are shown with an answer", answeredCalls, there.keySet());
    }

    private void refusalsAreShown() {
        same("the refusals that the examples show", shownRefusals, toldRefusals);
    }

    private void constantsAreTold() throws IllegalAccessException {
        Map<String, Long> told = new TreeMap<>();
        for (String line : lines) {
            Matcher row = CONSTANT_ROW.matcher(line);
            if (row.matches()) {
                told.put(row.group(1), Long.parseLong(row.group(2)));
            }
        }
        Map<String, Long> there = new TreeMap<>();
        for (Field field : WoolBridge.class.getFields()) {
            there.put(field.getName(), field.getLong(null));
        }
        same("the constants", told, there);
    }

    // ---- the tests

    private void testsAreTold() throws IOException {
        Set<String> told = new TreeSet<>();
        for (String line : lines) {
            if (line.startsWith("- `")) {
                told.addAll(namesIn(TEST_NAME, line));
            }
        }
        Set<String> there = new TreeSet<>();
        try (Stream<Path> files = Files.list(TESTS)) {
            List<String> names = new ArrayList<>(files.map(file -> file.getFileName().toString()).toList());
            names.removeIf(name -> !name.endsWith("Test.java"));
            names.forEach(name -> there.add(name.substring(0, name.length() - ".java".length())));
        }
        same("the tests", told, there);
        if (!lines.contains("    .ci/run") || !Files.isExecutable(Path.of(".ci/run"))) {
            wrong("the tests are run by .ci/run, which is there and can be run");
        }
    }

    private static Set<String> namesIn(Pattern pattern, String text) {
        Set<String> names = new TreeSet<>();
        Matcher matcher = pattern.matcher(text);
        while (matcher.find()) {
            names.add(matcher.group(1));
        }
        return names;
    }
}
