import java.io.IOException;
import java.nio.file.DirectoryStream;
import java.nio.file.Files;
import java.nio.file.Path;
import java.util.ArrayList;
import java.util.List;
import java.util.Set;
import java.util.TreeSet;
import java.util.regex.Matcher;
import java.util.regex.Pattern;

/** README.md is true: its programs and commands print what it says, its table names each test and each promise. */
public final class ReadmeTest {
    private static final Path README = Path.of("README.md");
    private static final Path DOCUMENT = Path.of("../shared/DOC.md");
    private static final Path SOURCES = Path.of("src");
    private static final Path TESTS = Path.of("src/test/java");
    private static final Pattern BLOCK = Pattern.compile("```(\\w+)\n(.*?)```", Pattern.DOTALL);
    private static final Pattern CLASS = Pattern.compile("public final class (\\w+)");
    private static final Pattern ROW = Pattern.compile("(?m)^\\| (\\w+Test) \\| (.*) \\|$");
    private static final Pattern NUMBERS = Pattern.compile("(\\d+)(?: to (\\d+))?");
    private static final Pattern CALL = Pattern.compile("(?m)^## Promise (\\d+): (\\w+)$");
    private static final int PROMISES = 65;
    private static final int READ_TEXT = 4;
    private static final int RUN_SCRIPT = 5;

    public static void main(String[] args) throws IOException, InterruptedException {
        String readme = Files.readString(README);
        programsAndCommands(readme);
        table(readme);
        filesThatItNames(readme);
        Check.end();
    }

    /** In a copy of this folder, so that what the commands compile does not stay here. */
    private static void programsAndCommands(String readme) throws IOException, InterruptedException {
        Path folder = Files.createTempDirectory("readme");
        Shell.copy(SOURCES, folder.resolve(SOURCES));
        List<String> kinds = new ArrayList<>();
        List<String> texts = new ArrayList<>();
        Matcher matcher = BLOCK.matcher(readme);
        while (matcher.find()) {
            kinds.add(matcher.group(1));
            texts.add(matcher.group(2));
        }
        int compared = 0;
        for (int i = 0; i < kinds.size(); i++) {
            String text = texts.get(i);
            if (kinds.get(i).equals("java")) {
                Matcher name = CLASS.matcher(text);
                Check.due("a class in the program " + text, name.find(), true);
                Files.writeString(folder.resolve(name.group(1) + ".java"), text);
            } else if (kinds.get(i).equals("sh") && !text.equals(".ci/run\n")) {
                Shell shell = Shell.run(folder, text);
                Check.due("the exit of " + text, shell.exit, 0);
                Check.due("a block with what is printed behind " + text, kinds.get(i + 1), "text");
                Check.due("what is printed by " + text, shell.said, texts.get(i + 1));
                compared++;
            }
        }
        Check.due("compared blocks of commands", compared, 3);
        Shell.delete(folder);
    }

    /** Each test has a row, and each promise in its row is quoted or called by the test. */
    private static void table(String readme) throws IOException {
        Set<String> rows = new TreeSet<>();
        Set<Integer> promises = new TreeSet<>();
        List<String> calls = callsOfPromises();
        Matcher row = ROW.matcher(readme);
        while (row.find()) {
            rows.add(row.group(1));
            String code = Files.readString(TESTS.resolve(row.group(1) + ".java"));
            for (int promise : promisesIn(row.group(2))) {
                promises.add(promise);
                boolean isTested = code.contains(calls.get(promise)) || code.contains("Check.promise(" + promise + ",")
                        || promise == READ_TEXT && code.contains("Check.read(")
                        || promise == RUN_SCRIPT && code.contains("Check.run(");
                Check.due(row.group(1) + " tests promise " + promise, isTested, true);
            }
        }
        Check.due("the tests in the table", rows.toString(), testsInTheFolder().toString());
        Check.due("promises in the table", promises.size(), PROMISES);
    }

    private static Set<String> testsInTheFolder() throws IOException {
        Set<String> names = new TreeSet<>();
        try (DirectoryStream<Path> files = Files.newDirectoryStream(TESTS, "*Test.java")) {
            for (Path file : files) {
                names.add(file.getFileName().toString().replace(".java", ""));
            }
        }
        return names;
    }

    private static Set<Integer> promisesIn(String column) {
        Set<Integer> promises = new TreeSet<>();
        Matcher numbers = NUMBERS.matcher(column.replaceAll("section \\d+|512 calls", ""));
        while (numbers.find()) {
            int first = Integer.parseInt(numbers.group(1));
            int last = numbers.group(2) == null ? first : Integer.parseInt(numbers.group(2));
            for (int promise = first; promise <= last; promise++) {
                promises.add(promise);
            }
        }
        return promises;
    }

    /** What a test contains that calls the method of a promise; promise 1 is the constructor. */
    private static List<String> callsOfPromises() throws IOException {
        List<String> calls = new ArrayList<>(List.of("", "new EchoMarket("));
        Matcher heading = CALL.matcher(Files.readString(DOCUMENT));
        while (heading.find()) {
            Check.due("the number of the next promise", Integer.parseInt(heading.group(1)), calls.size());
            calls.add("." + heading.group(2) + "(");
        }
        Check.due("promises in the document", calls.size() - 1, PROMISES);
        return calls;
    }

    private static void filesThatItNames(String readme) {
        Matcher names = Pattern.compile("`((?:\\.\\./|\\.ci/|src/)[\\w./]+|\\w+\\.md)`").matcher(readme);
        int count = 0;
        while (names.find()) {
            Check.due("a file or folder named " + names.group(1), Files.exists(Path.of(names.group(1))), true);
            count++;
        }
        Check.due("files named in README.md", count >= 5, true);
        Check.due("the right to execute .ci/run", Files.isExecutable(Path.of(".ci/run")), true);
    }
}
