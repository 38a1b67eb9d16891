import java.io.IOException;
import java.io.UncheckedIOException;
import java.nio.file.Files;
import java.nio.file.Path;
import java.util.Comparator;
import java.util.List;
import java.util.stream.Collectors;
import java.util.stream.Stream;

/** A project in a directory of its own, beside a shared one, in which commands of README.md and .ci/run are tried out. */
final class Scratch {
    /** How commands ended, and all that they printed. */
    record Outcome(int exit, String printed) { }

    private final Path root;
    private Process running;

    Scratch() throws IOException {
        root = Files.createTempDirectory("tribute");
        Files.createDirectories(root.resolve("project"));
        Files.createDirectories(root.resolve("shared/tests"));
    }

    /** A file of the project with this text; ../shared/.. for one of the shared directory. */
    void write(String file, String text) throws IOException {
        Path path = root.resolve("project").resolve(file).normalize();
        Files.createDirectories(path.getParent());
        Files.writeString(path, text);
    }

    /** A file of this project, or all that is in a directory of it. */
    void copy(String from) throws IOException {
        for (Path path : all(Path.of(from))) {
            Path to = root.resolve("project").resolve(path);
            if (Files.isDirectory(path)) {
                Files.createDirectories(to);
            } else {
                Files.createDirectories(to.getParent());
                Files.copy(path, to, java.nio.file.StandardCopyOption.COPY_ATTRIBUTES);
            }
        }
    }

    void start(String commands) throws IOException {
        running = new ProcessBuilder("sh", "-e", "-c", commands).directory(root.resolve("project").toFile())
            .redirectErrorStream(true).redirectOutput(root.resolve("printed").toFile()).start();
    }

    /** Waits for what was started, and takes the directory away. */
    Outcome end() throws IOException, InterruptedException {
        int exit = running.waitFor();
        String printed = Files.readString(root.resolve("printed"));
        List<Path> deepestFirst = all(root).stream().sorted(Comparator.reverseOrder()).collect(Collectors.toList());
        for (Path path : deepestFirst) {
            Files.delete(path);
        }
        return new Outcome(exit, printed);
    }

    private static List<Path> all(Path top) {
        try (Stream<Path> paths = Files.walk(top)) {
            return paths.collect(Collectors.toList());
        } catch (IOException e) {
            throw new UncheckedIOException(e);
        }
    }
}
