import java.nio.file.Files;
import java.nio.file.Path;
import java.util.ArrayList;
import java.util.HashSet;
import java.util.List;
import java.util.Set;
import java.util.regex.Matcher;
import java.util.regex.Pattern;

/** Rules of LANGUAGE.md that a text search can see in the class's source. */
public final class RulesTest {
    private static final Pattern HEAD = Pattern.compile(
        "^( {4,8})(?:(public|private) )?(?:static )?(?:[A-Za-z]+(?:\\[\\])? )?([A-Za-z]+)\\(([^)]*)\\)(?: throws [A-Za-z]+)? \\{$");

    public static void main(String[] args) throws Exception {
        List<String> lines = Files.readAllLines(Path.of(args[0]));
        List<String> code = new ArrayList<>();
        for (String line : lines) {
            String bare = line.replaceAll("\"[^\"]*\"", "\"\"").replaceAll("//.*", "");
            code.add(bare.strip().startsWith("*") || bare.strip().startsWith("/*") ? "" : bare);
        }
        words(code);
        imports(code);
        classes(code);
        methods(code);
        Checks.end();
    }

    private static void words(List<String> code) {
        String[] banned = {"->", "::", "catch", "finally", "synchronized", "assert ", "System.out", "Exact(", "Arrays.sort",
            "instanceof", "\"\" +", "+ \"\"", "protected", "float ", "double ", "hashCode", "toString", "while (true)", "for (;;)"};
        for (int n = 0; n < code.size(); n++) {
            for (String word : banned) {
                Checks.due("line " + (n + 1) + " holds " + word, code.get(n).contains(word), false);
            }
        }
    }

    private static void imports(List<String> code) {
        for (String line : code) {
            if (line.startsWith("import")) {
                boolean right = line.equals("import java.util.Arrays;") || line.equals("import java.util.NoSuchElementException;");
                Checks.due(line, right, true);
            }
        }
    }

    private static void classes(List<String> code) {
        int classes = 0;
        int fields = 0;
        for (String line : code) {
            if (line.contains(" class ")) {
                Checks.due("fields before " + line, fields <= 20, true);
                classes++;
                fields = 0;
            } else if (line.matches(" {4,8}(private )?(final )?[A-Za-z]+(\\[\\])? [a-zA-Z]+( = .*)?;") && !line.contains("return")) {
                boolean inside = line.startsWith("        ") == classes > 1;
                fields += inside ? 1 : 0;
            } else if (line.contains(" static ") && line.endsWith(";")) {
                Checks.due("static and final: " + line, line.contains("static final"), true);
            }
        }
        Checks.due("classes", classes <= 12, true);
    }

    private static void methods(List<String> code) {
        Set<String> face = new HashSet<>();
        Set<String> own = new HashSet<>();
        for (int n = 0; n < code.size(); n++) {
            Matcher head = HEAD.matcher(code.get(n));
            if (!head.matches()) {
                continue;
            }
            (("public").equals(head.group(2)) ? face : own).add(head.group(3));
            int parameters = head.group(4).isEmpty() ? 0 : head.group(4).split(",").length;
            Checks.due(head.group(3) + " takes seven at most", parameters <= 7, true);
            int end = n;
            while (!code.get(end).equals(head.group(1) + "}")) {
                end++;
            }
            Checks.due(head.group(3) + " is short: " + (end - n), end - n <= 60, true);
        }
        Checks.due("the face: 33 methods and the constructor", face.size(), 33);
        own.retainAll(face);
        Checks.due("own methods named as the face's: " + own, own.size(), 0);
    }
}
