import java.io.IOException;
import java.nio.file.Files;
import java.nio.file.Path;
import java.util.ArrayList;
import java.util.Comparator;
import java.util.List;
import java.util.concurrent.ExecutorService;
import java.util.concurrent.Executors;
import java.util.concurrent.Future;
import java.util.stream.Collectors;
import java.util.stream.Stream;

/**
 * .ci/run itself, copied into small projects whose tests are known to pass or to fail: it runs
 * each of them together with the class, and fails when one fails.
 */
public final class CiTests {
    private static final String CLASS = "public final class WiringContainer { public int live() { return 7; } }";
    private static final String PASSES = "if (new WiringContainer().live() != 7) { System.exit(1); }";
    private static final String FAILS = "if (new WiringContainer().live() == 7) { System.exit(1); }";
    private static final String NO_JAVA = "new WiringContainer().nothing();";
    private static final String SUPPORTED = "if (new Support().seven() != 7) { System.exit(1); }";

    private static int wrong = 0;

    /** A project with two tests of its own and a shared one; null leaves that out. */
    private record Project(String what, boolean passes, String first, String second, String shared) {
    }

    /** How a run ended, and what it printed. */
    private record Ended(int code, String printed) {
    }

    public static void main(String[] args) throws Exception {
        List<Project> projects = List.of(
                new Project("all pass", true, PASSES, SUPPORTED, PASSES),
                new Project("the first one fails", false, FAILS, PASSES, PASSES),
                new Project("the shared one fails", false, PASSES, PASSES, FAILS),
                new Project("one does not compile", false, PASSES, NO_JAVA, PASSES),
                new Project("there is no shared one", false, PASSES, PASSES, null));
        ExecutorService workers = Executors.newFixedThreadPool(4);
        List<Future<Ended>> runs = new ArrayList<>();
        for (Project project : projects) {
            runs.add(workers.submit(() -> run(project)));
        }
        for (int i = 0; i < projects.size(); i++) {
            judge(projects.get(i), runs.get(i).get());
        }
        workers.shutdown();
        System.out.println(wrong == 0 ? projects.size() + " projects end as due" : wrong + " projects do not end as due");
        if (wrong != 0) {
            System.exit(1);
        }
    }

    private static void judge(Project project, Ended ended) {
        boolean asDue = (ended.code == 0) == project.passes;
        // One that fails must not keep the others from being run.
        String[] tests = {project.first, project.second, project.shared};
        String[] names = {"First", "Second", "Shared"};
        for (int i = 0; i < tests.length && project.shared != null; i++) {
            boolean ran = ended.printed.lines().anyMatch((names[i] + " has begun")::equals);
            asDue &= ran == !tests[i].equals(NO_JAVA);
        }
        if (!asDue) {
            wrong++;
            System.out.println(project.what + ": ended with " + ended.code + " and printed\n" + ended.printed);
        }
    }

    private static Ended run(Project project) throws IOException, InterruptedException {
        Path place = Files.createTempDirectory("ci");
        try {
            Path here = place.resolve("project");
            Path script = here.resolve(".ci/run");
            write(here.resolve("src/main/java/WiringContainer.java"), CLASS);
            write(here.resolve("src/test/support/Support.java"), "class Support { int seven() { return 7; } }");
            writeTest(here.resolve("src/test/java"), "First", project.first);
            writeTest(here.resolve("src/test/java"), "Second", project.second);
            writeTest(place.resolve("shared/tests"), "Shared", project.shared);
            write(script, Files.readString(Path.of(".ci/run")));
            // From another directory: the script finds its project by itself.
            Path printed = place.resolve("printed");
            int code = new ProcessBuilder("sh", script.toString()).directory(place.toFile())
                    .redirectErrorStream(true).redirectOutput(printed.toFile()).start().waitFor();
            return new Ended(code, Files.readString(printed));
        } finally {
            remove(place);
        }
    }

    private static void writeTest(Path directory, String name, String statements) throws IOException {
        if (statements != null) {
            write(directory.resolve(name + ".java"), "public final class " + name
                    + " { public static void main(String[] args) { System.out.println(\"" + name + " has begun\"); "
                    + statements + " } }");
        }
    }

    private static void write(Path file, String text) throws IOException {
        Files.createDirectories(file.getParent());
        Files.writeString(file, text);
    }

    private static void remove(Path place) throws IOException {
        List<Path> all;
        try (Stream<Path> found = Files.walk(place)) {
            all = found.sorted(Comparator.reverseOrder()).collect(Collectors.toList());
        }
        for (Path path : all) {
            Files.delete(path);
        }
    }
}
