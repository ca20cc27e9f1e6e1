import java.io.IOException;
import java.nio.file.Files;
import java.nio.file.Path;
import java.util.List;
import java.util.regex.Matcher;
import java.util.regex.Pattern;

/** What a look at the text can tell of the rules of LANGUAGE.md; it runs in the project's folder. */
public final class SourceTest {

    /** The rules say "some sixty" and "some twelve". */
    private static final int MOST_LINES = 65;
    private static final int MOST_CLASSES = 13;
    private static final int MOST_PARAMETERS = 7;

    private static final List<String> NEVER = List.of("\\bpackage\\b", "\\bfinally\\b", "\\bsynchronized\\b",
            "\\bassert\\b", "\\bThread\\b", "\\b[rR]andom\\b", "\\bhashCode\\b", "\\bSystem\\.(?!arraycopy)",
            "->", "::", "Exact\\(", "static \\{", "\\bgetMessage\\b", "catch \\(\\w*(Throwable|Error|\\bException)\\b",
            "catch \\((ArrayIndexOutOfBounds|NullPointer|ClassCast|NegativeArraySize|ArrayStore)Exception");

    private static final Pattern THROW = Pattern.compile("throw (?!new (IllegalState|IllegalArgument|IndexOutOfBounds"
            + "|Arithmetic|UnsupportedOperation|NoSuchElement|Runtime)Exception\\((\"\")?\\);)");
    private static final Pattern METHOD =
            Pattern.compile("\\n( +)(?=\\S)(?:[\\w\\[\\]]+ )*\\w+\\(([^)]*)\\)[^;{]*\\{\\n");

    public static void main(String[] args) throws IOException {
        String text = Files.readString(Path.of("src/main/java/LoadRoom.java"));
        Check.is("characters 0 to 255 alone", text.chars().allMatch(c -> c < 256), true);
        String code = text.replaceAll("(?s)/\\*.*?\\*/", "").replaceAll("//.*", "").replaceAll("\"[^\"]*\"", "\"\"");
        for (String part : NEVER) {
            Check.is("'" + part + "' is used", Pattern.compile(part).matcher(code).find(), false);
        }
        Check.is("a throw of another form", THROW.matcher(code).find(), false);
        Check.is("too many classes", count(code, "\\bclass \\w+") > MOST_CLASSES, false);
        lookAtMethods(code);
        Check.end();
    }

    private static int count(String code, String pattern) {
        return (int) Pattern.compile(pattern).matcher(code).results().count();
    }

    private static void lookAtMethods(String code) {
        Matcher method = METHOD.matcher(code);
        int found = 0;
        for (int from = 0; method.find(from); from = method.end() - 1) {
            found++;
            int end = Math.max(method.end(), code.indexOf("\n" + method.group(1) + "}\n", method.end() - 1));
            long lines = code.substring(method.start() + 1, end).lines().count() + 1;
            String parameters = method.group(2);
            if (lines > MOST_LINES || parameters.split(",").length > MOST_PARAMETERS) {
                Check.tell("too long:" + method.group().strip());
            }
        }
        Check.is("methods were looked at", found > 0, true);
    }
}
