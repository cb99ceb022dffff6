import java.io.File;
import java.io.IOException;
import java.nio.file.Files;
import java.nio.file.Path;
import java.util.ArrayList;
import java.util.Comparator;
import java.util.List;
import java.util.stream.Stream;

/** Commands that a test runs in a directory of its own, and what they told. */
final class Shell {
    private static final String TOLD = "told.txt";

    private Shell() {
    }

    static Process begin(Path directory, String... command) throws IOException {
        File told = directory.resolve(TOLD).toFile();
        return new ProcessBuilder(command).directory(directory.toFile()).redirectErrorStream(true)
            .redirectOutput(told).start();
    }

    /** The exit code. */
    static int run(Path directory, String... command) throws Exception {
        return begin(directory, command).waitFor();
    }

    static String told(Path directory) throws IOException {
        return Files.readString(directory.resolve(TOLD));
    }

    static void copy(Path from, Path to) throws IOException {
        for (Path file : under(from)) {
            Files.copy(file, to.resolve(from.relativize(file).toString()));
        }
    }

    static void remove(Path directory) throws IOException {
        List<Path> files = under(directory);
        files.sort(Comparator.reverseOrder());
        for (Path file : files) {
            Files.delete(file);
        }
    }

    /** Each directory ahead of what is in it. */
    private static List<Path> under(Path directory) throws IOException {
        try (Stream<Path> files = Files.walk(directory)) {
            return new ArrayList<>(files.toList());
        }
    }
}
