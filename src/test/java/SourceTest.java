import java.io.IOException;
import java.nio.file.Files;
import java.nio.file.Path;
import java.util.List;
import java.util.regex.Matcher;
import java.util.regex.Pattern;

/** What a look at the text can tell of the rules of LANGUAGE.md; it runs in the project's folder. */
public final class SourceTest {

    private static final int MOST_LINES = 60;
    private static final int MOST_CLASSES = 12;
    private static final int MOST_PARAMETERS = 7;

    private static final String[] NEVER = {
        "import", "package", "try", "catch", "finally", "synchronized", "assert", "volatile", "native",
        "System", "Thread", "Object", "random", "equals", "hashCode", "toString", "double", "float",
    };

    private static final Pattern THROW = Pattern.compile("throw (?!new (IllegalStateException"
            + "|IllegalArgumentException|IndexOutOfBoundsException|ArithmeticException)\\(\"\"\\);)");
    private static final Pattern METHOD = Pattern.compile("\\n( +)(?=\\S)(?:[\\w\\[\\]]+ )*\\w+\\(([^)]*)\\)[^;{]*\\{\\n");

    public static void main(String[] args) throws IOException {
        String text = Files.readString(Path.of("src/main/java/LoadRoom.java"));
        Check.is("characters 0 to 127 alone", text.chars().allMatch(c -> c < 128), true);
        String code = text.replaceAll("(?s)/\\*.*?\\*/", "").replaceAll("//.*", "").replaceAll("\"[^\"]*\"", "\"\"");
        for (String word : NEVER) {
            Check.is("'" + word + "' is used", Pattern.compile("\\b" + word + "\\b").matcher(code).find(), false);
        }
        for (String part : List.of("->", "::", "Exact(", "static {")) {
            Check.is("'" + part + "' is used", code.contains(part), false);
        }
        Check.is("a throw of another form", THROW.matcher(code).find(), false);
        Check.is("too many classes", count(code, "\\bclass \\w+") > MOST_CLASSES, false);
        lookAtMethods(code);
        Check.end();
    }

    private static int count(String code, String pattern) {
        return (int) Pattern.compile(pattern).matcher(code).results().count();
    }

    private static void lookAtMethods(String code) {
        Matcher method = METHOD.matcher(code);
        int found = 0;
        for (int from = 0; method.find(from); from = method.end() - 1) {
            found++;
            int end = code.indexOf("\n" + method.group(1) + "}\n", method.end() - 1);
            long lines = code.substring(method.start() + 1, end).lines().count() + 1;
            String parameters = method.group(2);
            if (lines > MOST_LINES || parameters.split(",").length > MOST_PARAMETERS) {
                Check.tell("too long:" + method.group().strip());
            }
        }
        Check.is("methods were looked at", found > 60, true);
    }
}
