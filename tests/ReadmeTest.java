import java.lang.reflect.Method;
import java.lang.reflect.Modifier;
import java.nio.charset.StandardCharsets;
import java.nio.file.Files;
import java.nio.file.Path;
import java.util.regex.Matcher;
import java.util.regex.Pattern;

/** README.md: its example runs and tells what stands there, each call of the face is named, each file named is there. */
public final class ReadmeTest {
    public static void main(String[] args) throws Exception {
        Path root = Path.of(args[0]).toAbsolutePath().getParent().resolve("../../..").normalize();
        String page = Files.readString(root.resolve("README.md"));
        example(block(page, "java"), block(page, "text"));
        calls(page);
        refusals();
        files(root, page);
        Checks.end();
    }

    private static String block(String page, String language) {
        Matcher block = Pattern.compile("```" + language + "\n(.*?)```", Pattern.DOTALL).matcher(page);
        boolean found = block.find();
        Checks.due("README has a block of " + language, found, true);
        return found ? block.group(1) : "";
    }

    private static void example(String program, String told) throws Exception {
        Path dir = Files.createTempDirectory("readme");
        Path file = dir.resolve("Example.java");
        Files.writeString(file, program);
        String java = Path.of(System.getProperty("java.home"), "bin", "java").toString();
        Process run = new ProcessBuilder(java, "-cp", System.getProperty("java.class.path"), file.toString())
            .redirectErrorStream(true).start();
        String answer = new String(run.getInputStream().readAllBytes(), StandardCharsets.UTF_8);
        Checks.due("README's example ends with", run.waitFor(), 0);
        Checks.due("README's example tells", answer.replace("\r\n", "\n"), told);
        Files.delete(file);
        Files.delete(dir);
    }

    private static void calls(String page) {
        for (Method call : PastSleep.class.getDeclaredMethods()) {
            if (Modifier.isPublic(call.getModifiers())) {
                Checks.due("README names " + call.getName(), page.contains("`" + call.getName() + "`"), true);
            }
        }
    }

    /** "Where nothing can be answered": as the page says it of each kind of call. */
    private static void refusals() {
        PastSleep x = new PastSleep();
        Checks.due("NONE", x.sitter(0, 0), PastSleep.NONE);
        Checks.due("false of undo", x.undo(), false);
        Checks.due("false of mark", x.mark(4, false), false);
        Checks.due("false of touch", x.touch(0, true), false);
        Checks.due("false of went", x.went(0, 0), false);
        Checks.due("seated", x.seated(PastSleep.NONE), -2);
        Checks.due("aisle", Checks.aisle(x, 0), Checks.THROWS);
        Checks.due("beer", Checks.beer(x, 0), Checks.THROWS);
    }

    private static void files(Path root, String page) {
        String[] named = {"src/main/java/PastSleep.java", ".ci/run", "tests/help", "../shared/DOC.md", "../shared/LANGUAGE.md",
            "../shared/tests"};
        for (String file : named) {
            Checks.due("README names " + file, page.contains(file), true);
            Checks.due(file + " is there", Files.exists(root.resolve(file)), true);
        }
        for (String test : new String[] {"ModelTest", "FaultsTest", "RulesTest", "ReadmeTest"}) {
            Checks.due("README names " + test, page.contains("`" + test + "`"), true);
            Checks.due(test + " is there", Files.exists(root.resolve("tests/" + test + ".java")), true);
        }
    }
}
