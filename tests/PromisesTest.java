import java.io.IOException;
import java.nio.file.Files;
import java.nio.file.Path;
import java.util.List;
import java.util.TreeMap;
import java.util.regex.Matcher;
import java.util.regex.Pattern;
import java.util.stream.Stream;

/** Each promise of the document has edges that name it, and no edge names a promise that is none. */
public final class PromisesTest {
    private static final int PROMISES = 33;
    private static final Pattern EDGE = Pattern.compile("Checks\\.edge\\(([0-9]+), \"");

    public static void main(String[] args) throws IOException {
        Path tests = Path.of(args[0]).toAbsolutePath().getParent().resolve("../../../tests");
        TreeMap<Integer, Integer> named = new TreeMap<>();
        for (Path file : files(tests)) {
            Matcher edge = EDGE.matcher(Files.readString(file));
            while (edge.find()) {
                named.merge(Integer.parseInt(edge.group(1)), 1, Integer::sum);
            }
        }
        for (int promise = 1; promise <= PROMISES; promise++) {
            Checks.due("edges of promise " + promise + " are told", named.getOrDefault(promise, 0) > 0, true);
        }
        Checks.due("promises named", named.size(), PROMISES);
        Checks.end();
    }

    private static List<Path> files(Path tests) throws IOException {
        try (Stream<Path> all = Files.list(tests)) {
            return all.filter(file -> file.toString().endsWith("Edges.java")).sorted().toList();
        }
    }
}
