import java.io.IOException;
import java.nio.file.Files;
import java.nio.file.Path;
import java.util.List;
import java.util.stream.Collectors;
import java.util.stream.Stream;

/** README.md: its example is the code below, which answers as it says there; and it names every test. */
public final class ReadmeTest {

    private static final Path TESTS = Path.of("src/test/java");

    public static void main(String[] args) throws IOException {
        String page = Files.readString(Path.of("README.md"));
        Check.about("README.md");
        runExample();
        Check.is("it has the example of ReadmeTest", page.contains("```java\n" + example() + "\n```"), true);
        for (String test : namesOfTests()) {
            Check.is("it names " + test, page.contains("`" + test + "`"), true);
        }
        for (String call : callsOfTheFace()) {
            Check.is("it has a row of " + call, page.contains("\n| `" + call + "` |"), true);
        }
        Check.end();
    }

    private static void runExample() {
        // README.md has what follows
        LoadRoom room = new LoadRoom(4, 4, 4);   // a box: width, height, depth (its door is at the greatest depth)
        int low = room.piece(4, 1, 4, 3);        // a piece: width, height, depth, weight; its number: 0
        int cube = room.piece(2, 2, 2, 9);       // 1
        room.turn(cube, 3);                      // its marks: all six turns are allowed
        room.order(cube, 1);                     // its stop: it comes out after those of stop 0, and may not bar their way
        room.limit(low, 20);                     // how much weight may be above it

        int most = room.bound();                 // 24: no packing has a greater volume
        int volume = room.pack(1000);            // 24: searches with at most 1000 steps, and packs the best one met
        boolean sure = room.exact();             // true: the steps were enough, so there is none better
        int height = room.at(cube, 1);           // 1: the cube stands on the low piece
        int bears = room.at(low, 5);             // 9: and weighs on it
        int area = room.touch(low, cube);        // 4

        room.axle(1);                            // axles, by their places along the depth, rising
        room.axle(3);
        long above = room.load(0, 0);            // 21
        long below = room.load(0, 1);            // 2: so 21/2 of the weight is on axle 0
        // up to here
        Check.is("low", low, 0);
        Check.is("cube", cube, 1);
        Check.is("most", most, 24);
        Check.is("volume", volume, 24);
        Check.is("sure", sure, true);
        Check.is("height", height, 1);
        Check.is("bears", bears, 9);
        Check.is("area", area, 4);
        Check.is("above", above, 21);
        Check.is("below", below, 2);
    }

    private static String example() throws IOException {
        List<String> lines = Files.readAllLines(TESTS.resolve("ReadmeTest.java")).stream().map(String::strip).toList();
        return String.join("\n", lines.subList(
                lines.indexOf("// README.md has what follows") + 1, lines.indexOf("// up to here")));
    }

    private static List<String> namesOfTests() throws IOException {
        try (Stream<Path> files = Files.list(TESTS)) {
            return files.map(it -> it.getFileName().toString()).filter(it -> it.endsWith("Test.java"))
                    .map(it -> it.replace(".java", "")).sorted().collect(Collectors.toList());
        }
    }

    private static List<String> callsOfTheFace() {
        return Doc.sections().getOrDefault("The public face", List.of()).stream()
                .filter(it -> it.contains("(") && !it.contains("public LoadRoom("))
                .map(it -> it.replaceFirst("\\).*", ")").replaceFirst("public \\w+ ", "").replace("int ", "")).toList();
    }
}
