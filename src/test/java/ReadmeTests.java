import java.io.IOException;
import java.net.URL;
import java.net.URLClassLoader;
import java.nio.file.Files;
import java.nio.file.Path;
import java.util.ArrayList;
import java.util.List;
import java.util.Set;
import java.util.TreeSet;
import java.util.regex.Matcher;
import java.util.regex.Pattern;
import java.util.stream.Collectors;
import java.util.stream.Stream;

/**
 * README.md: each call that it shows answers what it says, and the tests are run as it says. The
 * examples are compiled as they stand there, with a comparison behind each call.
 */
public final class ReadmeTests {
    private static final Pattern BLOCK = Pattern.compile("(?ms)^```(\\w+)\\n(.*?)^```$");
    private static final Pattern STEP = Pattern.compile("(?:(int|boolean) (\\w+) = )?(x\\.\\w+\\(.*\\));\\s+// (\\S+?)(:.*)?");
    private static final String NEW = "WiringContainer x = new WiringContainer();";
    private static final String[] CALLS = {
        "declare", "manage", "produce", "inject", "types", "fits", "candidates", "resolve", "deploy", "cost", "begin",
        "end", "obtain", "call", "destroy", "shutdown", "beanOf", "owner", "destroyed", "live",
    };

    private static int wrong = 0;
    private static int checked = 0;

    /** Open to the examples, which another loader brings. */
    public static void due(String what, Object got, Object want) {
        checked++;
        if (!got.equals(want)) {
            wrong++;
            System.out.println("README.md: " + what + ": is " + got + ", due is " + want);
        }
    }

    public static void main(String[] args) throws Exception {
        String readme = Files.readString(Path.of("README.md"));
        List<String> examples = blocks(readme, "java");
        due("examples are shown", examples.isEmpty(), false);
        runAll(examples);
        everyCallIsShown(examples);
        constants(readme);
        commands(blocks(readme, "sh"), readme);
        testsAreNamed(readme);
        System.out.println(wrong == 0 ? checked + " things are as README.md says" : wrong + " things are not as due");
        if (wrong != 0) {
            System.exit(1);
        }
    }

    private static List<String> blocks(String readme, String language) {
        List<String> found = new ArrayList<>();
        Matcher block = BLOCK.matcher(readme);
        while (block.find()) {
            if (block.group(1).equals(language)) {
                found.add(block.group(2));
            }
        }
        return found;
    }

    private static void runAll(List<String> examples) throws Exception {
        StringBuilder source = new StringBuilder("public final class ReadmeExamples {\n");
        for (int i = 0; i < examples.size(); i++) {
            source.append("public static void example").append(i).append("() {\n");
            source.append(withComparisons(examples.get(i))).append("}\n");
        }
        Path directory = Files.createTempDirectory("readme");
        try {
            Path file = Files.writeString(directory.resolve("ReadmeExamples.java"), source.append("}\n"));
            int failed = new ProcessBuilder("javac", "-cp", System.getProperty("java.class.path"), "-d",
                    directory.toString(), file.toString()).inheritIO().start().waitFor();
            due("the examples compile", failed, 0);
            if (failed == 0) {
                call(directory, examples.size());
            }
        } finally {
            remove(directory);
        }
    }

    private static void call(Path directory, int examples) throws Exception {
        URL[] places = {directory.toUri().toURL()};
        try (URLClassLoader loader = new URLClassLoader(places, ReadmeTests.class.getClassLoader())) {
            Class<?> compiled = loader.loadClass("ReadmeExamples");
            for (int i = 0; i < examples; i++) {
                compiled.getMethod("example" + i).invoke(null);
            }
        }
    }

    /** The lines of an example; one that shows a call without its answer is told. */
    private static String withComparisons(String example) {
        StringBuilder source = new StringBuilder();
        for (String line : example.split("\n")) {
            Matcher step = STEP.matcher(line);
            if (step.matches()) {
                String got = step.group(3);
                if (step.group(2) != null) {
                    source.append(step.group(1)).append(' ').append(step.group(2)).append(" = ").append(got).append(";\n");
                    got = step.group(2);
                }
                source.append("ReadmeTests.due(\"").append(step.group(3)).append("\", ").append(got).append(", ")
                        .append(answer(step.group(4))).append(");\n");
            } else {
                due("a line that is no call with its answer", line, NEW);
                source.append(line).append('\n');
            }
        }
        return source.toString();
    }

    private static String answer(String told) {
        return told.matches("[A-Z]+") ? "WiringContainer." + told : told;
    }

    private static void everyCallIsShown(List<String> examples) {
        String all = String.join("\n", examples);
        for (String call : CALLS) {
            due("an example shows " + call, all.contains("x." + call + "("), true);
        }
    }

    private static void constants(String readme) throws ReflectiveOperationException {
        int rows = 0;
        Matcher row = Pattern.compile("(?m)^\\| (-\\d+) \\| `(\\w+)` \\|").matcher(readme);
        while (row.find()) {
            rows++;
            int value = WiringContainer.class.getField(row.group(2)).getInt(null);
            due(row.group(2), value, Integer.parseInt(row.group(1)));
        }
        due("constants that are told", rows, WiringContainer.class.getFields().length);
    }

    /** The commands for one test are those of .ci/run, with a place and a test put in. */
    private static void commands(List<String> blocks, String readme) throws IOException {
        Set<String> told = new TreeSet<>();
        for (String block : blocks) {
            told.addAll(List.of(block.split("\n")));
        }
        String script = Files.readString(Path.of(".ci/run")).replaceAll("\\\\\n\\s*", " ").replaceAll(" +", " ");
        Set<String> run = new TreeSet<>(Set.of(".ci/run", "mkdir -p /tmp/classes"));
        Matcher command = Pattern.compile("\\b(javac? -.*); then").matcher(script);
        while (command.find()) {
            run.add(command.group(1).replace("\"$classes\"", "/tmp/classes").replace("\"$name\"", "PromiseTests")
                    .replace("\"$test\"", "src/test/java/PromiseTests.java"));
        }
        due("commands", told, run);
        due(".ci/run is a program", Files.isExecutable(Path.of(".ci/run")), true);
        due("what .ci/run runs", script.contains("for test in src/test/java/*.java ../shared/tests/*.java; do"), true);
        due("it is told", readme.contains("each test under `src/test/java` and under `../shared/tests`"), true);
    }

    private static void testsAreNamed(String readme) throws IOException {
        Set<String> named = new TreeSet<>();
        Matcher name = Pattern.compile("`(\\w+Tests)`").matcher(readme);
        while (name.find()) {
            named.add(name.group(1));
        }
        try (Stream<Path> files = Files.list(Path.of("src/test/java"))) {
            Set<String> there = files.map(file -> file.getFileName().toString().replace(".java", ""))
                    .collect(Collectors.toCollection(TreeSet::new));
            due("tests that are named", named, there);
        }
    }

    private static void remove(Path directory) throws IOException {
        try (Stream<Path> files = Files.list(directory)) {
            for (Path file : files.collect(Collectors.toList())) {
                Files.delete(file);
            }
        }
        Files.delete(directory);
    }
}
