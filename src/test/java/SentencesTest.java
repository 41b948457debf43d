import java.io.IOException;
import java.nio.file.DirectoryStream;
import java.nio.file.Files;
import java.nio.file.Path;
import java.util.ArrayList;
import java.util.List;
import java.util.regex.Matcher;
import java.util.regex.Pattern;

/** Each exception and each range that the document names has a test that names it; run from the project's folder. */
public final class SentencesTest {
    private static final int PROMISES = 32;
    private static final Pattern NAMED = Pattern.compile("Due\\.by\\((\\d+), \"([^\"]*)\"");
    private static final Pattern RANGE = Pattern.compile("-?\\d+ to \\d+");

    public static void main(String[] args) throws IOException {
        List<List<String>> named = named();
        for (int promise = 1; promise <= PROMISES; promise++) {
            Due.by(promise, "`");
            Due.no("the document has it alone", Document.part("Promise " + promise).isEmpty());
            for (String tag : Document.part("Promise " + promise).split("(?=@(?:param|return|throws) )")) {
                if (tag.startsWith("@throws ") || RANGE.matcher(tag).find()) {
                    String words = tag;
                    Due.yes("a test names " + words, named.get(promise).stream().anyMatch(words::contains));
                }
            }
        }
        Due.by("Terms", "If several exceptions apply to a call");
        Due.yes("there are no more promises", Document.part("Promise " + (PROMISES + 1)).isEmpty());
        Due.end();
    }

    /** The words that the tests of boundaries name, by promise. */
    private static List<List<String>> named() throws IOException {
        List<List<String>> named = new ArrayList<>();
        for (int promise = 0; promise <= PROMISES; promise++) {
            named.add(new ArrayList<>());
        }
        try (DirectoryStream<Path> tests = Files.newDirectoryStream(Path.of("src/test/java"), "Bounds*Test.java")) {
            for (Path test : tests) {
                Matcher by = NAMED.matcher(Files.readString(test));
                while (by.find()) {
                    named.get(Integer.parseInt(by.group(1))).add(by.group(2));
                }
            }
        }
        return named;
    }
}
