import java.io.IOException;
import java.nio.file.DirectoryStream;
import java.nio.file.Files;
import java.nio.file.Path;
import java.util.ArrayList;
import java.util.List;
import java.util.regex.Matcher;
import java.util.regex.Pattern;

/** The sentences that the tests quote stand in the document, word for word, in the section or promise they name. */
public final class SentencesTest {
    private static final Path DOCUMENT = Path.of("../shared/DOC.md");
    private static final Path TESTS = Path.of("src/test/java");
    private static final Pattern QUOTE = Pattern.compile("Check\\.(terms|promise)\\((\\d+), \"((?:[^\"\\\\]|\\\\.)*)\"");
    private static final int PROMISES = 65;
    private static final int SECTIONS = 8;

    public static void main(String[] args) throws IOException {
        List<String> sections = parts("\n\\d+\\. [A-Z][a-z ]+\\.\n|\n## Promise 1:", SECTIONS);
        List<String> promises = parts("\n## Promise \\d+:", PROMISES);
        List<List<String>> quotes = new ArrayList<>();
        for (int promise = 0; promise <= PROMISES; promise++) {
            quotes.add(new ArrayList<>());
        }
        try (DirectoryStream<Path> files = Files.newDirectoryStream(TESTS, "*Test.java")) {
            for (Path file : files) {
                String code = Files.readString(file).replaceAll("\"\\s*\\+ \"", "");
                Matcher matcher = QUOTE.matcher(code);
                while (matcher.find()) {
                    int number = Integer.parseInt(matcher.group(2));
                    boolean isPromise = matcher.group(1).equals("promise");
                    String words = matcher.group(3).replace("\\\"", "\"").replaceAll("\\s+", " ");
                    if (!(isPromise ? promises : sections).get(number).contains(words)) {
                        Check.fail(file + " quotes what the document does not say: " + matcher.group());
                    }
                    quotes.get(isPromise ? number : 0).add(words);
                }
            }
        }
        for (int promise = 1; promise <= PROMISES; promise++) {
            refusedCalls(promise, promises.get(promise), quotes.get(promise));
        }
        Check.end();
    }

    /** Each sentence of a promise on what it throws is quoted at least in part. */
    private static void refusedCalls(int promise, String text, List<String> quotes) {
        String[] sentences = text.replaceFirst("## Not promised.*", "").split("(?= Throws `)");
        for (int i = 1; i < sentences.length; i++) {
            String sentence = sentences[i];
            if (quotes.stream().noneMatch(words -> sentence.contains(words))) {
                Check.fail("no test of promise " + promise + " quotes:" + sentence);
            }
        }
    }

    /** The document cut at headings; part 0 is what stands before the first one, the last promise ends the parts. */
    private static List<String> parts(String heading, int count) throws IOException {
        List<String> parts = new ArrayList<>();
        for (String part : Files.readString(DOCUMENT).split(heading)) {
            parts.add(part.replaceAll("\\s+", " "));
        }
        Check.due("parts of the document at " + heading, parts.size() > count, true);
        return parts;
    }
}
