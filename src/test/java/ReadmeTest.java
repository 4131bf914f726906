import java.io.IOException;
import java.lang.reflect.Method;
import java.lang.reflect.Modifier;
import java.net.URL;
import java.net.URLClassLoader;
import java.nio.file.Files;
import java.nio.file.Path;
import java.nio.file.attribute.PosixFilePermission;
import java.util.ArrayList;
import java.util.List;
import java.util.function.BiConsumer;
import java.util.regex.Matcher;
import java.util.regex.Pattern;

/** What README.md shows of the class's use is compiled and run, and must answer as README.md says. */
final class ReadmeTest {
    private static final Pattern ANSWERED = Pattern.compile("^(rivers\\.\\w+\\(.*\\)); +// (-?\\d+)(:? .*)?$");
    private static final String NAME = "ShownInReadme";

    private ReadmeTest() {
    }

    public static void main(String[] args) throws Exception {
        String readme = Files.readString(Project.README);
        List<String> shown = linesOf(readme, "java");
        everyCallIsShown(shown);
        theAnswers(shown);
        theCommand(readme);
        theTestsAreNamed(readme);
        Check.end("ReadmeTest");
    }

    /** The lines of all blocks of that kind. */
    private static List<String> linesOf(String readme, String kind) {
        List<String> lines = new ArrayList<>();
        boolean inside = false;
        for (String line : readme.split("\n")) {
            if (line.startsWith("```")) {
                inside = line.equals("```" + kind);
            } else if (inside) {
                lines.add(line);
            }
        }
        return lines;
    }

    private static void everyCallIsShown(List<String> shown) {
        String all = String.join("\n", shown);
        for (Method m : StableRivers.class.getDeclaredMethods()) {
            if (Modifier.isPublic(m.getModifiers())) {
                Check.isTrue("README.md shows " + m.getName(), all.contains("rivers." + m.getName() + "("));
            }
        }
        for (String line : shown) {
            boolean bare = line.startsWith("rivers.") && !ANSWERED.matcher(line).matches();
            Check.isTrue("README.md says what it answers: " + line, !bare);
        }
    }

    private static void theAnswers(List<String> shown) throws Exception {
        Path folder = Files.createTempDirectory("readme");
        try {
            Path source = folder.resolve(NAME + ".java");
            Files.writeString(source, programOf(shown));
            int rc = new ProcessBuilder("javac", "-cp", System.getProperty("java.class.path"),
                    "-d", folder.toString(), source.toString()).inheritIO().start().waitFor();
            Check.due("what README.md shows compiles", rc, 0);
            if (rc == 0) {
                run(folder);
            }
        } finally {
            Project.remove(folder);
        }
    }

    /** The lines as a program that tells each call with its answer and the one that README.md says. */
    private static String programOf(List<String> shown) {
        StringBuilder program = new StringBuilder("public final class " + NAME + " {\n"
                + "public static void run(java.util.function.BiConsumer<String, long[]> told) {\n");
        for (String line : shown) {
            Matcher m = ANSWERED.matcher(line);
            if (m.matches()) {
                String call = m.group(1);
                program.append("told.accept(\"").append(call.replace("\"", "\\\"")).append("\", new long[] {")
                        .append(call).append(", ").append(m.group(2)).append("L});\n");
            } else {
                program.append(line).append('\n');
            }
        }
        return program.append("}\n}\n").toString();
    }

    private static void run(Path folder) throws Exception {
        URL[] where = {folder.toUri().toURL()};
        try (URLClassLoader loader = new URLClassLoader(where, ReadmeTest.class.getClassLoader())) {
            BiConsumer<String, long[]> told = (call, answers) ->
                    Check.due("README.md: " + call, answers[0], answers[1]);
            loader.loadClass(NAME).getMethod("run", BiConsumer.class).invoke(null, told);
        }
    }

    private static void theCommand(String readme) throws IOException {
        List<String> commands = linesOf(readme, "sh");
        Check.due("one command runs the tests", commands.size(), 1);
        Check.isTrue("it is .ci/run", commands.contains(".ci/run"));
        Check.isTrue(".ci/run can be run",
                Files.getPosixFilePermissions(Project.RUN).contains(PosixFilePermission.OWNER_EXECUTE));
    }

    /** .ci/run takes files by their name, so a test with another name would never be run. */
    private static void theTestsAreNamed(String readme) throws IOException {
        for (Path file : Project.filesIn(Project.TESTS)) {
            String name = file.getFileName().toString().replace(".java", "");
            boolean test = Files.readString(file).contains("static void main(");
            Check.isTrue(name + " has a main method just if it is a test", test == name.endsWith("Test"));
            Check.isTrue("README.md names " + name, readme.contains("`" + name + "`"));
        }
    }
}
