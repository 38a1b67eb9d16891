import java.io.IOException;
import java.lang.reflect.Method;
import java.lang.reflect.Modifier;
import java.nio.file.Files;
import java.nio.file.Path;
import java.util.ArrayList;
import java.util.List;
import java.util.regex.Matcher;
import java.util.regex.Pattern;

/** That the example of use in README.md answers as README.md says, and that its commands run the tests. */
public final class ReadmeTest {
    private static String readme;

    public static void main(String[] args) throws Exception {
        readme = Files.readString(Path.of("README.md"));
        example();
        exampleHasEveryCall();
        commandForAll();
        commandForOne();
        namedTests();
        Check.finish();
    }

    /** The texts of one kind between fences, under one heading. */
    private static List<String> blocks(String heading, String kind) {
        Matcher part = Pattern.compile("(?ms)^## " + heading + "\n(.*?)(?=^## |\\z)").matcher(readme);
        List<String> found = new ArrayList<>();
        if (part.find()) {
            Matcher block = Pattern.compile("(?ms)^```" + kind + "\n(.*?)^```$").matcher(part.group(1));
            while (block.find()) {
                found.add(block.group(1));
            }
        }
        return found;
    }

    /** So many there are; one that is missing is an empty text, which no test takes for a right one. */
    private static String block(String heading, String kind, int number, int of) {
        List<String> all = blocks(heading, kind);
        Check.due("README.md: blocks of " + kind + " under " + heading, all.size(), of);
        return number < all.size() ? all.get(number) : "";
    }

    private static void same(String what, String got, String want) {
        Check.due(what + " <" + got + ">, README.md says <" + want + ">", got.equals(want) && !want.isEmpty(), true);
    }

    private static void example() throws Exception {
        Check.sentence("README.md: the example of use");
        Scratch scratch = new Scratch();
        scratch.copy("src/main/java");
        scratch.write("Example.java", block("Use", "java", 0, 1));
        scratch.start(block("Use", "sh", 0, 1));
        Scratch.Outcome outcome = scratch.end();
        Check.due("exit code", outcome.exit(), 0);
        same("it prints", outcome.printed(), block("Use", "text", 0, 1));
    }

    private static void exampleHasEveryCall() {
        Check.sentence("README.md: the example uses every call");
        String program = block("Use", "java", 0, 1);
        for (Method m : TributeLists.class.getDeclaredMethods()) {
            if (Modifier.isPublic(m.getModifiers())) {
                Check.due("lists." + m.getName(), program.contains("lists." + m.getName() + "("), true);
                Check.due("the table has " + m.getName(), readme.contains("`" + m.getName() + "`"), true);
            }
        }
    }

    private static void commandForAll() {
        Check.sentence("README.md: the command that runs every test");
        // What it runs is CiRunTest's business: from here it would run this test, and so on.
        same("the command", ".ci/run\n", block("Tests", "sh", 0, 2));
        Check.due("it can be run", Files.isExecutable(Path.of(".ci/run")), true);
    }

    private static void commandForOne() throws IOException, InterruptedException {
        Check.sentence("README.md: the commands that run one test");
        Scratch scratch = new Scratch();
        scratch.copy("src");
        scratch.start(block("Tests", "sh", 1, 2));
        Scratch.Outcome outcome = scratch.end();
        Check.due("exit code", outcome.exit(), 0);
        Check.due("printed: " + outcome.printed(), outcome.printed().equals("all answers are as due\n"), true);
    }

    private static void namedTests() throws IOException {
        Check.sentence("README.md: names each test");
        Matcher name = Pattern.compile("`([A-Z]\\w+Test)`").matcher(readme);
        while (name.find()) {
            Check.due(name.group(1) + " is there", Files.isRegularFile(Path.of("src/test/java/" + name.group(1) + ".java")), true);
        }
        try (var files = Files.newDirectoryStream(Path.of("src/test/java"), "*Test.java")) {
            for (Path file : files) {
                String test = file.getFileName().toString().replace(".java", "");
                Check.due(test + " is named", readme.contains("`" + test + "`"), true);
            }
        }
    }
}
