import java.io.IOException;
import java.nio.charset.StandardCharsets;
import java.nio.file.Files;
import java.nio.file.Path;
import java.nio.file.StandardCopyOption;
import java.util.ArrayList;
import java.util.Collections;
import java.util.List;
import java.util.stream.Stream;

/** Commands of a shell in a folder of their own, as README.md and .ci/run need them. */
final class Shell {
    final int exit;
    final String said;

    private Shell(int exit, String said) {
        this.exit = exit;
        this.said = said;
    }

    /** Runs commands up to the first that fails; what they say as errors is let through and not kept. */
    static Shell run(Path folder, String commands) throws IOException, InterruptedException {
        Process process = new ProcessBuilder("sh", "-e", "-c", commands).directory(folder.toFile())
                .redirectError(ProcessBuilder.Redirect.INHERIT).start();
        process.getOutputStream().close();
        String said = new String(process.getInputStream().readAllBytes(), StandardCharsets.UTF_8);
        return new Shell(process.waitFor(), said);
    }

    static void copy(Path from, Path to) throws IOException {
        for (Path file : below(from)) {
            Path copy = to.resolve(from.relativize(file));
            if (Files.isDirectory(file)) {
                Files.createDirectories(copy);
            } else {
                Files.createDirectories(copy.getParent());
                Files.copy(file, copy, StandardCopyOption.COPY_ATTRIBUTES);
            }
        }
    }

    static void delete(Path folder) throws IOException {
        List<Path> files = below(folder);
        Collections.reverse(files);
        for (Path file : files) {
            Files.delete(file);
        }
    }

    private static List<Path> below(Path folder) throws IOException {
        try (Stream<Path> files = Files.walk(folder)) {
            return new ArrayList<>(files.toList());
        }
    }
}
