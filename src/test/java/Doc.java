import java.io.IOException;
import java.io.UncheckedIOException;
import java.nio.file.Files;
import java.nio.file.Path;
import java.util.ArrayList;
import java.util.LinkedHashMap;
import java.util.List;
import java.util.Map;

/**
 * The document. A test opens a part of it and then says by which words each of its checks goes, so that a wrong answer
 * is told with the promise and the sentence that it breaks. Words that don't stand there are told, and at the end also
 * those that no check went by. Where the document is not at hand, the checks alone are made.
 */
final class Doc {

    private static final Path FILE = Path.of("../shared/DOC.md");

    private static final boolean IS_AT_HAND = Files.exists(FILE);

    private static String name;
    private static String text;
    private static boolean[] hasCheck;

    private Doc() {
    }

    static boolean isAtHand() {
        return IS_AT_HAND;
    }

    /** The sections by their headings, each as its lines of words. */
    static Map<String, List<String>> sections() {
        Map<String, List<String>> found = new LinkedHashMap<>();
        List<String> lines = new ArrayList<>();
        for (String line : read()) {
            if (line.startsWith("#")) {
                lines = new ArrayList<>();
                found.put(line.replaceFirst("^#+ ", ""), lines);
            } else if (!line.isBlank() && !line.startsWith("```")) {
                lines.add(line.strip());
            }
        }
        return found;
    }

    private static List<String> read() {
        try {
            return IS_AT_HAND ? Files.readAllLines(FILE) : List.of();
        } catch (IOException e) {
            throw new UncheckedIOException(e);
        }
    }

    /** A promise, without the face of its call. */
    static void open(String section) {
        String words = String.join(" ", sections().getOrDefault(section, List.of()));
        begin(section, words.replaceAll("`[^`]*`", ""));
    }

    /** The line of a section that begins so. */
    static void open(String section, String beginning) {
        String words = "";
        for (String line : sections().getOrDefault(section, List.of())) {
            words = line.startsWith(beginning) ? line : words;
        }
        begin(section + ", '" + beginning + " ..'", words);
    }

    private static void begin(String newName, String newText) {
        name = newName;
        text = newText;
        hasCheck = new boolean[text.length()];
        Check.about(name);
        Check.is("the document has it", IS_AT_HAND && text.isEmpty(), false);
    }

    static void says(String words, Check.Call check) {
        Check.about(name + ", \"" + words + "\"");
        mark(words);
        try {
            check.run();
        } catch (RuntimeException thrown) {
            Check.tell("threw " + thrown + " at " + thrown.getStackTrace()[0]);
        }
        Check.about(name);
    }

    /** Of words that stand there twice, the next ones that have no check yet. */
    private static void mark(String words) {
        int at = text.indexOf(words);
        Check.is("the document says so", at >= 0 || !IS_AT_HAND, true);
        while (at >= 0 && hasCheck[at] && text.indexOf(words, at + 1) >= 0) {
            at = text.indexOf(words, at + 1);
        }
        for (int i = 0; at >= 0 && i < words.length(); i++) {
            hasCheck[at + i] = true;
        }
    }

    static void end() {
        StringBuilder left = new StringBuilder();
        for (int i = 0; i < text.length(); i++) {
            left.append(hasCheck[i] ? ' ' : text.charAt(i));
        }
        if (left.chars().anyMatch(Character::isLetterOrDigit)) {
            Check.tell("no check goes by: " + left.toString().strip());
        }
        Check.end();
    }
}
