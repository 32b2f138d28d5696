import java.io.IOException;
import java.nio.file.Files;
import java.nio.file.Path;

/** .ci/run finds every test, also new ones, and fails if one fails; tried in a small project of its own. */
public final class CiRunTest {
    private static final Path SCRIPT = Path.of(".ci/run");
    private static final Path CLASS = Path.of("src/main/java/EchoMarket.java");
    private static final String PASSING = "new EchoMarket().time();";
    private static final String WRONG = "System.out.println(\"time() answered 1\"); System.exit(1);";
    private static final String THROWING = "throw new IllegalStateException();";
    private static final String NOT_JAVA = "this is no statement";

    private static Path folder;
    private static Path own;
    private static Path shared;

    public static void main(String[] args) throws IOException, InterruptedException {
        Path all = Files.createTempDirectory("ci");
        folder = all.resolve("main");
        own = folder.resolve("src/test/java");
        shared = all.resolve("shared/tests");
        Shell.copy(SCRIPT.getParent(), folder.resolve(SCRIPT.getParent()));
        Shell.copy(CLASS, folder.resolve(CLASS));
        Files.createDirectories(own);
        Files.createDirectories(shared);
        write(own, "OneTest", PASSING);
        write(shared, "Runs", PASSING);
        runs();
        Shell.delete(all);
        Check.end();
    }

    private static void runs() throws IOException, InterruptedException {
        ci("a passing project, from another folder", "cd / && " + folder.resolve(SCRIPT), 0,
                "passed: src/test/java/OneTest.java", "passed: ../shared/tests/Runs.java", "2 tests, 0 failed");
        write(own, "OneTest", WRONG);
        ci("a wrong test of the project", ".ci/run", 1, "FAILED: src/test/java/OneTest.java", "time() answered 1",
                "passed: ../shared/tests/Runs.java", "2 tests, 1 failed");
        write(own, "OneTest", PASSING);
        write(shared, "NewRuns", WRONG);
        ci("a wrong new shared test", ".ci/run", 1, "FAILED: ../shared/tests/NewRuns.java", "time() answered 1",
                "passed: ../shared/tests/Runs.java", "3 tests, 1 failed");
        write(shared, "NewRuns", THROWING);
        ci("a shared test that throws", ".ci/run", 1, "FAILED: ../shared/tests/NewRuns.java", "3 tests, 1 failed");
        write(shared, "NewRuns", NOT_JAVA);
        ci("a shared test that can't be compiled", ".ci/run", 1, "FAILED: ../shared/tests/NewRuns.java",
                "3 tests, 1 failed");
        Files.delete(shared.resolve("NewRuns.java"));
        write(shared.resolve("more"), "Runs", WRONG);
        ci("a wrong shared test in a folder below", ".ci/run", 1, "FAILED: ../shared/tests/more/Runs.java",
                "passed: ../shared/tests/Runs.java", "3 tests, 1 failed");
        Shell.delete(shared.resolve("more"));
        Files.delete(shared.resolve("Runs.java"));
        ci("no shared test", ".ci/run", 1, "FAILED: ");
        Files.delete(shared);
        ci("no shared tests folder", ".ci/run", 1, "FAILED: ");
        Files.createDirectories(shared);
        write(shared, "Runs", PASSING);
        Files.delete(own.resolve("OneTest.java"));
        ci("no test of the project", ".ci/run", 1, "FAILED: ");
    }

    private static void write(Path to, String name, String statements) throws IOException {
        Files.createDirectories(to);
        Files.writeString(to.resolve(name + ".java"), "public final class " + name + " {\n"
                + "    public static void main(String[] args) {\n        " + statements + "\n    }\n}\n");
    }

    private static void ci(String what, String command, int exit, String... lines)
            throws IOException, InterruptedException {
        Shell shell = Shell.run(folder, command + " 2>&1");
        Check.due("the exit for " + what, shell.exit, exit);
        for (String line : lines) {
            Check.due("'" + line + "' for " + what + " in: " + shell.said, shell.said.contains(line), true);
        }
    }
}
