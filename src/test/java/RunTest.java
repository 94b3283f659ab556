import java.io.IOException;
import java.nio.file.Files;
import java.nio.file.Path;
import java.nio.file.StandardCopyOption;
import java.util.ArrayList;
import java.util.List;

/** How README.md says that tests are run: .ci/run on small projects of its own, and the lines that run one test alone. */
public final class RunTest {
    private static final String GOOD = "public final class NAME { public static void main(String[] a) { new TrapsWatchTraps(); } }";
    private static final String BAD = GOOD.replace("new TrapsWatchTraps();", "System.exit(1);");
    private static final String THROWS = GOOD.replace("new TrapsWatchTraps();", "throw new IllegalStateException();");
    private static final String NO_JAVA = "public final class NAME {";
    private static final String HELPER = "final class NAME { }";
    private static final String CLASS = "public final class TrapsWatchTraps { public int wipe() { return 0; } }";
    private static final String OWN = "src/test/java/", GIVEN = "../shared/tests/", MAIN = "src/main/java/TrapsWatchTraps.java";

    private final String what;
    private final Path project;
    private Process process = null;

    private RunTest(String of) throws IOException {
        what = of;
        project = Files.createTempDirectory("run").resolve("main");
        for (String needed : new String[] {".ci/", "src/main/java/", OWN, GIVEN}) {
            Files.createDirectories(project.resolve(needed).normalize());
        }
        Files.copy(Path.of(".ci/run"), project.resolve(".ci/run"), StandardCopyOption.COPY_ATTRIBUTES);
        Files.writeString(project.resolve(MAIN), CLASS);
    }

    public static void main(String[] args) throws Exception {
        Due.dueTrue(".ci/run can be executed", Files.isExecutable(Path.of(".ci/run")));
        // All are started ahead of the first that is waited for: they run beside each other.
        RunTest good = new RunTest("all pass").put(OWN, "One", GOOD).put(OWN, "Two", GOOD).put(OWN, "Helper", HELPER)
                .put(GIVEN, "Three", GOOD).put(GIVEN, "Four", GOOD).start();
        List<RunTest> failing = oneFails();
        List<RunTest> refused = oneDoesNotCompile();
        refused.addAll(thereIsNone());
        runsAll(good);
        for (RunTest run : failing) {
            String told = run.ends(1);
            Due.dueTrue("the others are run: " + told, told.contains("2 passed, 1 failed"));
        }
        for (RunTest run : refused) {
            run.ends(1);
        }
        oneAlone();
        Due.end();
    }

    private static void runsAll(RunTest run) throws Exception {
        String told = run.ends(0);
        Due.dueTrue("how many passed is told: " + told, told.contains("4 passed, 0 failed"));
        for (String name : new String[] {"One", "Two", "Three", "Four"}) {
            Due.dueTrue(name + " was run: " + told, told.contains("== " + name + "\n"));
        }
        Due.dueTrue("what is no test is not run: " + told, !told.contains("Helper"));
    }

    private static List<RunTest> oneFails() throws IOException {
        List<RunTest> runs = new ArrayList<>();
        // The first and the last of each kind, as a failure must not be lost behind one that passes.
        for (String name : new String[] {"Aaa", "Zzz"}) {
            runs.add(withOneOfEach("a project's test fails").put(OWN, name, BAD).start());
            runs.add(withOneOfEach("a given test fails").put(GIVEN, name, BAD).start());
        }
        runs.add(withOneOfEach("a project's test throws").put(OWN, "Aaa", THROWS).start());
        runs.add(withOneOfEach("a given test throws").put(GIVEN, "Aaa", THROWS).start());
        return runs;
    }

    private static List<RunTest> oneDoesNotCompile() throws IOException {
        List<RunTest> runs = new ArrayList<>();
        runs.add(withOneOfEach("a project's test is no Java").put(OWN, "Aaa", NO_JAVA).start());
        runs.add(withOneOfEach("a given test is no Java").put(GIVEN, "Aaa", NO_JAVA).start());
        runs.add(withOneOfEach("the class is no Java").change("{ return 0; }", "").start());
        runs.add(withOneOfEach("the class has a warning").change("return 0;", "return (int) 0;").start());
        return runs;
    }

    private static List<RunTest> thereIsNone() throws IOException {
        List<RunTest> runs = new ArrayList<>();
        runs.add(new RunTest("no test of the project").put(OWN, "Helper", HELPER).put(GIVEN, "Given", GOOD).start());
        runs.add(new RunTest("no test is given").put(OWN, "Own", GOOD).start());
        return runs;
    }

    private static RunTest withOneOfEach(String of) throws IOException {
        return new RunTest(of).put(OWN, "Own", GOOD).put(GIVEN, "Given", GOOD);
    }

    private RunTest put(String directory, String name, String source) throws IOException {
        Files.writeString(project.resolve(directory).normalize().resolve(name + ".java"), source.replace("NAME", name));
        return this;
    }

    /** Changes the class of the small project. */
    private RunTest change(String from, String to) throws IOException {
        Files.writeString(project.resolve(MAIN), CLASS.replace(from, to));
        return this;
    }

    /** From another directory than the project's, as the script finds its own. */
    private RunTest start() throws IOException {
        process = begin(project.getParent(), "bash", project.resolve(".ci/run").toString());
        return this;
    }

    /** What it told, when it ended as it must. */
    private String ends(int code) throws Exception {
        Due.about(what);
        String told = new String(process.getInputStream().readAllBytes());
        Due.due(".ci/run told " + told + " and", process.waitFor(), code);
        ReadmeTest.delete(project.getParent());
        return told;
    }

    private static Process begin(Path directory, String... command) throws IOException {
        return new ProcessBuilder(command).directory(directory.toFile()).redirectErrorStream(true).start();
    }

    /** The page's own lines, in its own shell. */
    private static void oneAlone() throws Exception {
        Due.about("README.md");
        List<String> blocks = ReadmeTest.blocks("sh");
        Due.due("blocks of the shell", blocks.size(), 2);
        Due.dueSame("the first one", blocks.isEmpty() ? "" : blocks.get(0), ".ci/run\n");
        if (blocks.size() == 2) {
            Process alone = begin(Path.of("."), "bash", "-ec", blocks.get(1) + "rm -r \"$out\"\n");
            String told = new String(alone.getInputStream().readAllBytes());
            Due.due("one test alone told " + told + " and", alone.waitFor(), 0);
            Due.dueTrue("its answers are told: " + told, told.matches("\\d+ answers as due, 0 not\n"));
        }
    }
}
