import java.io.IOException;
import java.lang.reflect.Method;
import java.nio.file.Files;
import java.nio.file.Path;
import java.util.Set;
import java.util.TreeSet;
import java.util.regex.Matcher;
import java.util.regex.Pattern;
import java.util.stream.Stream;

/** What README.md and EDGES.md say is so when it is tried. */
public final class ReadmeTest {
    private static final Due due = new Due();
    private static final Path README = Path.of("README.md");
    private static final Path EDGES = Path.of("src/test/EDGES.md");
    private static final Path TESTS = Path.of("src/test/java");
    private static final Pattern CALL = Pattern.compile("set\\.(\\w+)\\((.*)\\); +// (-?\\d+): .+");

    public static void main(String[] args) throws IOException {
        calls();
        commands();
        everyTestIsNamed();
        edgesNameTests();
        due.end("ReadmeTest");
    }

    /** The lines of each java block, on an object of its own: behind // stands what is due. */
    private static void calls() throws IOException {
        Matcher block = Pattern.compile("(?s)```java\n(.*?)```").matcher(Files.readString(README));
        int blocks = 0;
        while (block.find()) {
            blocks++;
            String[] lines = block.group(1).split("\n");
            due.same("first line of block " + blocks, lines[0], "StuntSet set = new StuntSet();");
            Told set = new Told();
            for (int i = 1; i < lines.length; i++) {
                make(set, lines[i]);
            }
        }
        due.is("java blocks", blocks, 2);
    }

    private static void make(Told set, String line) {
        Matcher call = CALL.matcher(line);
        boolean isCall = call.matches();
        due.is("a call with what is due: " + line, isCall ? 1 : 0, 1);
        if (isCall) {
            due.is(line, set.call(call.group(1), numbers(call.group(2))), Long.parseLong(call.group(3)));
        }
    }

    private static long[] numbers(String args) {
        if (args.isEmpty()) {
            return new long[0];
        }
        String[] words = args.split(", ");
        long[] values = new long[words.length];
        for (int i = 0; i < words.length; i++) {
            if (words[i].equals("true") || words[i].equals("false")) {
                values[i] = words[i].equals("true") ? 1 : 0;
            } else {
                values[i] = Long.decode(words[i].replaceAll("L$", ""));
            }
        }
        return values;
    }

    /** The files that the page's commands need are there, and its script can be run. */
    private static void commands() throws IOException {
        due.is(".ci/run is executable", Files.isExecutable(Path.of(".ci/run")) ? 1 : 0, 1);
        Matcher name = Pattern.compile("`?([\\w./]+/[\\w.]+\\.(?:java|md))\\b").matcher(Files.readString(README));
        int files = 0;
        while (name.find()) {
            files++;
            due.is(name.group(1) + " is there", Files.exists(Path.of(name.group(1))) ? 1 : 0, 1);
        }
        due.is("files are named", Math.min(files, 5), 5);
    }

    /** Every file under src/test/java, and none that is not there. */
    private static void everyTestIsNamed() throws IOException {
        Set<String> there = new TreeSet<>();
        try (Stream<Path> files = Files.list(TESTS)) {
            files.forEach(file -> there.add(file.getFileName().toString().replace(".java", "")));
        }
        Set<String> named = new TreeSet<>();
        Matcher name = Pattern.compile("`([A-Z]\\w*[a-z])`").matcher(Files.readString(README));
        while (name.find()) {
            if (!name.group(1).equals("Test")) {
                named.add(name.group(1));
            }
        }
        due.same("classes that README.md names", named.toString(), there.toString());
    }

    /** A row of EDGES.md names methods as Class.method, or as Class.method, other, other. */
    private static void edgesNameTests() throws IOException {
        int rows = 0;
        for (String row : Files.readAllLines(EDGES)) {
            String[] columns = row.split(" \\| ");
            if (columns.length == 2 && !columns[1].startsWith("test") && !columns[1].startsWith("---")) {
                rows++;
                for (String part : columns[1].replaceAll(" \\|$", "").split("; ")) {
                    namesTests(part);
                }
            }
        }
        due.is("rows of EDGES.md", Math.min(rows, 70), 70);
    }

    private static void namesTests(String part) {
        Matcher named = Pattern.compile("(\\w+Test)(?:\\.(\\w+(?:, \\w+)*))?").matcher(part);
        if (!named.matches()) {
            due.is("EDGES.md names a test: " + part, part.startsWith("Promises") ? 1 : 0, 1);
            return;
        }
        Set<String> methods = methodsOf(named.group(1));
        due.is(named.group(1) + " is there", methods.contains("main") ? 1 : 0, 1);
        if (named.group(2) != null) {
            for (String method : named.group(2).split(", ")) {
                due.is(named.group(1) + "." + method + " is there", methods.contains(method) ? 1 : 0, 1);
            }
        }
    }

    private static Set<String> methodsOf(String test) {
        Set<String> methods = new TreeSet<>();
        try {
            for (Method m : Class.forName(test).getDeclaredMethods()) {
                methods.add(m.getName());
            }
        } catch (ClassNotFoundException e) {
            return methods;
        }
        return methods;
    }
}
