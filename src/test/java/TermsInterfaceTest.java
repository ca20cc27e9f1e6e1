import java.io.IOException;
import java.nio.file.Files;
import java.nio.file.Path;
import java.util.List;
import java.util.regex.Pattern;

/** Terms: what the interface says ahead of calls. No call's answer shows it, so the text is looked at. */
public final class TermsInterfaceTest {

    private static final Pattern CALL = Pattern.compile("public \\w+ (\\w+)\\(");

    private static String source = "";

    public static void main(String[] args) throws IOException {
        source = Files.readString(Path.of("src/main/java/LoadRoom.java"));
        Doc.open("Terms", "Ahead of the calls `piece`");
        Doc.says("Ahead of the calls `piece`, `turn`, `order`, `limit`, `fits` the interface says: ---- pieces.",
                () -> isAheadOf("---- pieces", "piece", "turn", "order", "limit", "fits"));
        Doc.end();
        Doc.open("Terms", "Ahead of the calls `pack`");
        Doc.says("Ahead of the calls `pack`, `exact`, `steps`, `bound`, `at`, `moment`, `touch` the interface says:"
                + " ---- packing.",
                () -> isAheadOf("---- packing", "pack", "exact", "steps", "bound", "at", "moment", "touch"));
        Doc.end();
        Doc.open("Terms", "Ahead of the calls `axle`");
        Doc.says("Ahead of the calls `axle`, `load` the interface says: ---- axles.",
                () -> isAheadOf("---- axles", "axle", "load"));
        Doc.end();
    }

    /** The calls between a comment of these words and the next one of its kind are just these. */
    private static void isAheadOf(String words, String... calls) {
        String comment = "// " + words + "\n";
        int at = source.indexOf(comment);
        Check.is("the text has '" + words + "'", at >= 0, true);
        String behind = at < 0 ? "" : source.substring(at + comment.length()).split("// ----")[0];
        List<String> found = CALL.matcher(behind).results().map(it -> it.group(1)).toList();
        Check.is("behind it come " + List.of(calls) + "; found are " + found, found.equals(List.of(calls)), true);
    }
}
