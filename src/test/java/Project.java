import java.io.IOException;
import java.nio.file.Files;
import java.nio.file.Path;
import java.util.List;
import java.util.stream.Stream;

/** Where the files of the project are; .ci/run tells it, else it is where one stands. */
final class Project {
    static final Path HOME = Path.of(System.getProperty("stablerivers.home", "."));
    static final Path MAIN = HOME.resolve("src/main/java/StableRivers.java");
    static final Path TESTS = HOME.resolve("src/test/java");
    static final Path README = HOME.resolve("README.md");
    static final Path RUN = HOME.resolve(".ci/run");

    private Project() {
    }

    static List<Path> filesIn(Path folder) throws IOException {
        try (Stream<Path> files = Files.list(folder)) {
            return files.sorted().toList();
        }
    }

    static void remove(Path path) throws IOException {
        if (Files.isDirectory(path)) {
            for (Path inside : filesIn(path)) {
                remove(inside);
            }
        }
        Files.deleteIfExists(path);
    }
}
