import java.io.IOException;
import java.util.ArrayDeque;
import java.util.List;
import java.util.Queue;

/** That .ci/run runs every test of a project and every shared one, and fails if one fails: tried out on small projects. */
public final class CiRunTest {
    private static final String OWN = "src/test/java/";
    private static final String SHARED = "../shared/tests/";
    private static final String CLASS = "src/main/java/TributeLists.java";
    private static final String BROKEN = "public final class {";

    /** A project that was started, and what is due of it. */
    private record Case(String name, Scratch scratch, boolean passes, List<String> runs) { }

    private static final int AT_ONCE = 4;
    private static final Queue<Case> STARTED = new ArrayDeque<>();

    public static void main(String[] args) throws Exception {
        passing();
        failing("an own test ends with 1", OWN + "FirstTest.java", test("FirstTest", "System.exit(1);"), "LastTest", "Former", "Later");
        failing("an own test throws", OWN + "LastTest.java", test("LastTest", "Integer.parseInt(\"x\");"), "FirstTest", "Former", "Later");
        failing("a shared test ends with 1", SHARED + "Former.java", test("Former", "System.exit(1);"), "FirstTest", "LastTest", "Later");
        failing("the last shared test ends with 1", SHARED + "Later.java", test("Later", "System.exit(1);"), "FirstTest", "LastTest", "Former");
        failing("a shared test doesn't compile", SHARED + "Former.java", BROKEN, "FirstTest", "LastTest", "Later");
        failing("an own test doesn't compile", OWN + "FirstTest.java", BROKEN);
        failing("the class doesn't compile", CLASS, BROKEN);
        missing("no own tests are there", SHARED + "Former.java");
        missing("no shared tests are there", OWN + "FirstTest.java");
        while (!STARTED.isEmpty()) {
            look(STARTED.remove());
        }
        Check.finish();
    }

    /** A test that tells its name, unless what comes ahead of that ends it. */
    private static String test(String name, String ahead) {
        return "public final class " + name + " { public static void main(String[] args) { new TributeLists(); "
            + ahead + " System.out.println(\"ran " + name + "\"); } }";
    }

    private static Scratch bare() throws IOException {
        Scratch scratch = new Scratch();
        scratch.copy(".ci/run");
        scratch.write(CLASS, "public final class TributeLists { }");
        return scratch;
    }

    private static Scratch whole() throws IOException {
        Scratch scratch = bare();
        for (String name : new String[] {"FirstTest", "LastTest"}) {
            scratch.write(OWN + name + ".java", test(name, ""));
        }
        scratch.write(OWN + "Helper.java", "final class Helper { }");
        for (String name : new String[] {"Former", "Later"}) {
            scratch.write(SHARED + name + ".java", test(name, ""));
        }
        return scratch;
    }

    private static void start(String name, Scratch scratch, boolean passes, String... runs) throws Exception {
        if (STARTED.size() == AT_ONCE) {
            look(STARTED.remove());
        }
        scratch.start("sh .ci/run");
        STARTED.add(new Case(name, scratch, passes, List.of(runs)));
    }

    private static void passing() throws Exception {
        start("every test passes", whole(), true, "FirstTest", "LastTest", "Former", "Later");
    }

    private static void failing(String name, String file, String text, String... runs) throws Exception {
        Scratch scratch = whole();
        scratch.write(file, text);
        start(name, scratch, false, runs);
    }

    private static void missing(String name, String only) throws Exception {
        Scratch scratch = bare();
        scratch.write(only, test(only.replaceAll(".*/|[.]java", ""), ""));
        start(name, scratch, false);
    }

    private static void look(Case c) throws Exception {
        Check.sentence(".ci/run: " + c.name);
        Scratch.Outcome outcome = c.scratch.end();
        Check.due("it passes, with <" + outcome.printed() + ">", outcome.exit() == 0, c.passes);
        for (String test : c.runs) {
            Check.due("times that " + test + " ran", outcome.printed().split("\nran " + test + "\n", -1).length - 1, 1);
        }
    }
}
