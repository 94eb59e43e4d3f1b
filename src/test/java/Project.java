import java.io.IOException;
import java.io.UncheckedIOException;
import java.nio.file.Files;
import java.nio.file.Path;
import java.util.ArrayList;
import java.util.Comparator;
import java.util.List;
import java.util.stream.Stream;

/** A copy of a project in a folder of its own, with a folder shared beside it, in which commands are run. */
final class Project {
    private final Path room;
    private final Path root;

    Project() throws IOException {
        room = Files.createTempDirectory("juryreel");
        root = room.resolve("main");
        Files.createDirectories(root);
    }

    Project put(String name, String text) throws IOException {
        Path file = root.resolve(name).normalize();
        Files.createDirectories(file.getParent());
        Files.writeString(file, text);
        return this;
    }

    /** Takes a file, or a folder with all that is in it, from the project that is tested, with its rights. */
    Project take(String name) throws IOException {
        try (Stream<Path> found = Files.walk(Path.of(name))) {
            for (Path from : found.filter(Files::isRegularFile).toList()) {
                Path to = root.resolve(from);
                Files.createDirectories(to.getParent());
                Files.copy(from, to);
                to.toFile().setExecutable(Files.isExecutable(from));
            }
        }
        return this;
    }

    Process start(String command) throws IOException {
        return new ProcessBuilder("sh", "-c", command).directory(root.toFile()).redirectErrorStream(true).start();
    }

    /** The lines that were printed, behind which stands the exit code. */
    static List<String> wait(Process process) throws IOException, InterruptedException {
        List<String> lines = new ArrayList<>(new String(process.getInputStream().readAllBytes()).lines().toList());
        lines.add(String.valueOf(process.waitFor()));
        return lines;
    }

    List<String> run(String command) throws IOException, InterruptedException {
        return wait(start(command));
    }

    void remove() throws IOException {
        try (Stream<Path> found = Files.walk(room)) {
            found.sorted(Comparator.reverseOrder()).forEach(Project::delete);
        }
    }

    private static void delete(Path path) {
        try {
            Files.delete(path);
        } catch (IOException e) {
            throw new UncheckedIOException(e);
        }
    }
}
