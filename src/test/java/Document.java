import java.io.IOException;
import java.nio.file.Files;
import java.nio.file.Path;

/** The text of ../shared/DOC.md by its headings; it is read from the project's folder. */
final class Document {
    private static final String TEXT = read();

    private Document() {
    }

    private static String read() {
        try {
            return Files.readString(Path.of("../shared/DOC.md"));
        } catch (IOException e) {
            throw new IllegalStateException("the document is not there", e);
        }
    }

    /** What stands under the heading that is, or begins with, these words and a colon; nothing if there is none. */
    static String part(String heading) {
        for (String part : TEXT.split("(?m)^## ")) {
            String head = part.lines().findFirst().orElse("");
            if (head.equals(heading) || head.startsWith(heading + ":")) {
                return part.substring(head.length());
            }
        }
        return "";
    }

    static boolean says(String heading, String words) {
        return part(heading).contains(words);
    }
}
