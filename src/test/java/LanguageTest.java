import java.io.IOException;
import java.nio.file.Files;
import java.nio.file.Path;
import java.util.regex.Matcher;
import java.util.regex.Pattern;

/** What of LANGUAGE.md can be seen from the text of the program alone; it is run from the project's folder. */
public final class LanguageTest {
    private static final String[][] NONE_OF = {
        {"a lambda", "->"},
        {"a method reference", "::"},
        {"an import or a package", "\\b(import|package)\\b"},
        {"a word that is not in the language", "\\b(synchronized|assert|finally|volatile|transient|native|try|catch"
                + "|strictfp|yield|var|record|sealed|instanceof)\\b"},
        {"a library that is not needed", "\\b(System|Arrays|Thread|Runtime|Object|Class|Random|Iterator|List)\\b"},
        {"a function of Math that throws", "\\b\\w+Exact\\b"},
        {"what of Integer, Long and Math is no function of rule 4",
                "\\b(Integer|Long|Math)\\b(?!\\.(compare|max|min|abs|bitCount|floorDiv|floorMod)\\()"},
        {"an initialiser block", "\\bstatic\\s*\\{"},
        {"an own exception", "\\bextends\\b"},
        {"a method of all objects", "\\b(equals|hashCode|toString|getClass|wait|notify|notifyAll)\\s*\\("},
        {"a text joined by +", "\"\\s*\\+|\\+\\s*\""},
        {"a static field that is not final", "\\bstatic\\s+(?!final\\b)\\w+(\\[\\])?\\s+\\w+\\s*[=;]"},
        {"an exception but of a written text", "\\bthrow\\b(?!\\s+new\\s+\\w+\\(\"[^\"]*\"\\);)"},
        {"a machine's exception", "\\b(NullPointer|ArrayIndex|Arithmetic|ClassCast|NegativeArray|ArrayStore)\\w*"},
        {"an object made during a call", "(?<![=]\\s)(?<!throw )\\bnew\\b"},
    };

    private static final int MOST_LINES = 60;
    private static final int MOST_PARAMETERS = 7;

    public static void main(String[] args) throws IOException {
        String source = Files.readString(Path.of("src/main/java/TurnsHall.java"));
        String code = source.replaceAll("(?s)/\\*.*?\\*/", "").replaceAll("//[^\n]*", "");
        for (String[] rule : NONE_OF) {
            Matcher found = Pattern.compile(rule[1]).matcher(code);
            Due.tell(rule[0], "not found", found.find() ? around(code, found.start()) : "not found");
        }
        Due.yes("signs 1 to 127 alone", source.chars().allMatch(sign -> sign > 0 && sign < 128));
        methods(code);
        indices(code);
        Due.end();
    }

    private static String around(String code, int at) {
        return code.substring(Math.max(0, at - 40), Math.min(code.length(), at + 40));
    }

    private static void methods(String code) {
        Matcher head = Pattern.compile("\\n( {4}| {8})(?:(?:public|private|static|final) )*\\w+(?:\\[\\])? (\\w+)"
                + "\\(([^)]*)\\)[^;{]*\\{").matcher(code);
        int found = 0;
        while (head.find()) {
            found++;
            int end = code.indexOf("\n" + head.group(1) + "}", head.end());
            long lines = code.substring(head.start(), end).lines().count();
            Due.yes(head.group(2) + " is short", lines <= MOST_LINES);
            Due.yes(head.group(2) + " has few parameters", head.group(3).split(",").length <= MOST_PARAMETERS);
        }
        Due.yes("methods were found", found > 60);
    }

    /** Each row is read and written where its index was looked at: in Cells, in slot, or along the row's own length. */
    private static void indices(String code) {
        Matcher use = Pattern.compile("\\b(\\w+)\\[(\\w+)\\]").matcher(code);
        int found = 0;
        while (use.find()) {
            if (use.group(1).equals("new") || use.group(2).equals(use.group(2).toUpperCase())) {
                continue;
            }
            found++;
            String before = code.substring(Math.max(0, use.start() - 160), use.start());
            Due.yes("index of " + around(code, use.start()),
                    before.contains(use.group(2) + " < " + use.group(1) + ".length"));
        }
        Due.yes("indices were found", found > 5);
    }
}
