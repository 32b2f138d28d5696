import java.io.IOException;
import java.nio.file.DirectoryStream;
import java.nio.file.Files;
import java.nio.file.Path;
import java.util.ArrayList;
import java.util.List;
import java.util.regex.Matcher;
import java.util.regex.Pattern;

/** The tests quote each sentence of the document, word for word, in the section or promise that they name. */
public final class SentencesTest {
    private static final Path DOCUMENT = Path.of("../shared/DOC.md");
    private static final Path TESTS = Path.of("src/test/java");
    private static final Pattern QUOTE =
            Pattern.compile("Check\\.(terms|promise)\\((\\d+), \"((?:[^\"\\\\]|\\\\.)*)\"");
    private static final String HEADINGS_OF_CALLS = " Ahead of the calls [^.]* the interface says: ---- "
            + "(input|valleys|customers|shouts|explanations|checks and measures|undo, output, saved state)\\.";
    private static final int PROMISES = 65;
    private static final int SECTIONS = 8;

    public static void main(String[] args) throws IOException {
        List<String> sections = parts("\n\\d+\\. [A-Z][a-z ]+\\.\n|\n## Promise 1:", SECTIONS);
        List<String> promises = parts("\n## Promise \\d+:", PROMISES);
        List<List<String>> quotesOfSections = emptyLists(SECTIONS);
        List<List<String>> quotesOfPromises = emptyLists(PROMISES);
        try (DirectoryStream<Path> files = Files.newDirectoryStream(TESTS, "*Test.java")) {
            for (Path file : files) {
                quotes(file, "terms", sections, quotesOfSections);
                quotes(file, "promise", promises, quotesOfPromises);
            }
        }
        for (int section = 1; section <= SECTIONS; section++) {
            sentences("section " + section, sections.get(section), quotesOfSections.get(section));
        }
        for (int promise = 1; promise <= PROMISES; promise++) {
            sentences("promise " + promise, promises.get(promise), quotesOfPromises.get(promise));
        }
        Check.end();
    }

    /** Collects what a test quotes of the sections or of the promises, which has to stand there. */
    private static void quotes(Path file, String kind, List<String> parts, List<List<String>> quotes)
            throws IOException {
        String code = Files.readString(file).replaceAll("\"\\s*\\+ \"", "");
        Matcher matcher = QUOTE.matcher(code);
        while (matcher.find()) {
            if (matcher.group(1).equals(kind)) {
                int number = Integer.parseInt(matcher.group(2));
                String words = matcher.group(3).replace("\\\"", "\"").replaceAll("\\s+", " ");
                if (!parts.get(number).contains(words)) {
                    Check.fail(file + " quotes what the document does not say: " + matcher.group());
                }
                quotes.get(number).add(words);
            }
        }
    }

    /** Each sentence is quoted at least in part; headings and the signature in front of a promise need not be. */
    private static void sentences(String name, String text, List<String> quotes) {
        String plain = text.replaceFirst("^[\\w ]+ `[^`]*`: ", "").replaceFirst("## Not promised.*", "")
                .replaceAll(HEADINGS_OF_CALLS, "");
        for (String sentence : plain.split("(?<=\\.) (?=[A-Z\"])| (?=Throws `)| (?=- `)|(?<=```) (?=\")")) {
            String words = sentence.strip();
            if (quotes.stream().noneMatch(quote -> words.contains(quote) || quote.contains(words))) {
                Check.fail("no test of " + name + " quotes: " + words);
            }
        }
    }

    private static List<List<String>> emptyLists(int last) {
        List<List<String>> lists = new ArrayList<>();
        for (int i = 0; i <= last; i++) {
            lists.add(new ArrayList<>());
        }
        return lists;
    }

    /** The document cut at headings; part 0 is what stands before the first one, the last promise ends the parts. */
    private static List<String> parts(String heading, int count) throws IOException {
        List<String> parts = new ArrayList<>();
        for (String part : Files.readString(DOCUMENT).split(heading)) {
            parts.add(part.replaceAll("\\s+", " "));
        }
        Check.due("parts of the document at " + heading, parts.size() > count, true);
        return parts;
    }
}
