import java.io.IOException;
import java.nio.file.Files;
import java.nio.file.Path;
import java.util.List;
import java.util.Map;
import java.util.stream.Collectors;
import java.util.stream.Stream;

/** Each part of the document that a test can hold the class to is opened by one, which then takes all its words. */
public final class DocTest {

    /** The title and what is free: neither binds an answer. */
    private static final List<String> FREE = List.of("LoadRoom", "Not promised");

    public static void main(String[] args) throws IOException {
        String tests = textOfTests();
        for (Map.Entry<String, List<String>> section : Doc.sections().entrySet()) {
            String name = section.getKey();
            boolean isWhole = tests.contains("Doc.open(\"" + name + "\");");
            if (!isWhole && !FREE.contains(name)) {
                Check.is("words in " + name, section.getValue().isEmpty(), false);
                section.getValue().forEach(line -> isOpened(tests, name, line));
            }
        }
        if (Doc.isAtHand()) {
            Check.is("the last promise was found", Doc.sections().containsKey("Promise 15: load"), true);
        } else {
            System.out.println("../shared/DOC.md is not at hand: its words were not compared with the tests'");
        }
        Check.end();
    }

    private static String textOfTests() throws IOException {
        try (Stream<Path> files = Files.list(Path.of("src/test/java"))) {
            return files.map(DocTest::text).collect(Collectors.joining());
        }
    }

    private static String text(Path file) {
        try {
            return Files.readString(file);
        } catch (IOException e) {
            throw new IllegalStateException(e);
        }
    }

    private static void isOpened(String tests, String section, String line) {
        boolean isFound = false;
        for (int end = 1; end <= line.length(); end++) {
            isFound = isFound || tests.contains("Doc.open(\"" + section + "\", \"" + line.substring(0, end) + "\");");
        }
        Check.is("a test opens " + section + ", line '" + line + "'", isFound, true);
    }
}
