import java.io.IOException;
import java.nio.file.Files;
import java.nio.file.Path;

/** .ci/run itself, on small projects: it runs every test there is, and fails if one of them fails. */
final class RunTest {
    private static final String GOOD = "System.out.println(\"this is \" + NAME);";
    private static final String BAD = GOOD + " System.exit(1);";
    private static final String BROKEN = "this does not compile";

    private RunTest() {
    }

    public static void main(String[] args) throws Exception {
        Path folder = Files.createTempDirectory("run");
        try {
            everyTestIsRun(folder.resolve("good"));
            aTestThatFails(folder.resolve("own"), BAD, GOOD, GOOD);
            aTestThatFails(folder.resolve("last"), GOOD, BAD, GOOD);
            aTestThatFails(folder.resolve("shared"), GOOD, GOOD, BAD);
            aTestThatFails(folder.resolve("broken"), GOOD, BROKEN, GOOD);
            aTestThatFails(folder.resolve("sharedbroken"), GOOD, GOOD, BROKEN);
            withoutSharedTests(folder.resolve("none"));
        } finally {
            Project.remove(folder);
        }
        Check.end("RunTest");
    }

    private static void everyTestIsRun(Path place) throws Exception {
        make(place, GOOD, GOOD, GOOD);
        Result result = run(place);
        Check.due("all are good", result.rc, 0);
        result.ran("FirstTest", 1);
        result.ran("SecondTest", 1);
        result.ran("FirstRuns", 1);
        result.ran("SecondRuns", 1);
        result.ran("Helper", 0);
    }

    private static void aTestThatFails(Path place, String first, String second, String shared) throws Exception {
        make(place, first, second, shared);
        Result result = run(place);
        Check.isTrue(".ci/run fails: " + place.getFileName(), result.rc != 0);
        if (!second.equals(BROKEN)) {
            // One that fails keeps none of the others from being run.
            result.ran("SecondTest", 1);
            result.ran("SecondRuns", 1);
        }
    }

    private static void withoutSharedTests(Path place) throws Exception {
        make(place, GOOD, GOOD, GOOD);
        Project.remove(place.resolve("shared"));
        Check.isTrue(".ci/run fails without shared tests", run(place).rc != 0);
    }

    /** A project of two tests, a helper and two shared tests beside it. */
    private static void make(Path place, String first, String second, String shared) throws IOException {
        Path project = place.resolve("project");
        write(project.resolve("src/main/java"), "StableRivers", "");
        write(project.resolve("src/test/java"), "Helper", "");
        write(project.resolve("src/test/java"), "FirstTest", first);
        write(project.resolve("src/test/java"), "SecondTest", second);
        write(place.resolve("shared/tests"), "FirstRuns", shared);
        write(place.resolve("shared/tests"), "SecondRuns", GOOD);
        Files.createDirectories(project.resolve(".ci"));
        Files.copy(Project.RUN, project.resolve(".ci/run"));
    }

    private static void write(Path folder, String name, String main) throws IOException {
        Files.createDirectories(folder);
        String program = main.isEmpty() ? "" : "public static void main(String[] args) { "
                + main.replace("NAME", "\"" + name + "\"") + " }";
        Files.writeString(folder.resolve(name + ".java"), "public final class " + name + " { " + program + " }\n");
    }

    private static Result run(Path place) throws Exception {
        ProcessBuilder builder = new ProcessBuilder("sh", place.resolve("project/.ci/run").toString());
        // It is to find its own files, wherever one stands.
        builder.directory(place.resolve("project/.ci").toFile());
        builder.redirectErrorStream(true);
        Process process = builder.start();
        process.getOutputStream().close();
        String said = new String(process.getInputStream().readAllBytes());
        return new Result(process.waitFor(), said);
    }

    private record Result(int rc, String said) {
        void ran(String test, int times) {
            String line = "this is " + test + "\n";
            Check.due(".ci/run runs " + test, said.split(line, -1).length - 1, times);
        }
    }
}
