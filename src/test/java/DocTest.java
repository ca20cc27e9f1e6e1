import java.io.IOException;
import java.nio.file.Files;
import java.nio.file.Path;
import java.util.List;
import java.util.Map;
import java.util.stream.Collectors;
import java.util.stream.Stream;

/** Each promise of the document, and each line of its terms, is opened by a test, which then takes all its words. */
public final class DocTest {

    public static void main(String[] args) throws IOException {
        String tests = textOfTests();
        for (Map.Entry<String, List<String>> section : Doc.sections().entrySet()) {
            String name = section.getKey();
            if (name.startsWith("Promise ")) {
                Check.is("a test opens " + name, tests.contains("Doc.open(\"" + name + "\");"), true);
            }
            if (name.equals("Terms")) {
                section.getValue().forEach(line -> isOpened(tests, line));
            }
        }
        if (Doc.isAtHand()) {
            Check.is("the last promise was found", Doc.sections().containsKey("Promise 15: load"), true);
        } else {
            System.out.println("../shared/DOC.md is not at hand: its words were not compared with the tests'");
        }
        Check.end();
    }

    private static String textOfTests() throws IOException {
        try (Stream<Path> files = Files.list(Path.of("src/test/java"))) {
            return files.map(DocTest::text).collect(Collectors.joining());
        }
    }

    private static String text(Path file) {
        try {
            return Files.readString(file);
        } catch (IOException e) {
            throw new IllegalStateException(e);
        }
    }

    /** What the interface says ahead of calls is no call's answer. */
    private static void isOpened(String tests, String line) {
        boolean isFound = line.startsWith("Ahead of the calls");
        for (int end = 1; end <= line.length(); end++) {
            isFound = isFound || tests.contains("Doc.open(\"Terms\", \"" + line.substring(0, end) + "\");");
        }
        Check.is("a test opens the terms' line '" + line + "'", isFound, true);
    }
}
