import java.io.IOException;
import java.lang.reflect.Method;
import java.lang.reflect.Modifier;
import java.net.URL;
import java.net.URLClassLoader;
import java.nio.file.Files;
import java.nio.file.Path;
import java.util.ArrayList;
import java.util.Arrays;
import java.util.List;
import java.util.TreeSet;
import java.util.regex.Matcher;
import java.util.regex.Pattern;
import java.util.stream.Stream;
import javax.tools.ToolProvider;

/** What README.md tells is true as it stands there: it is read, its example is compiled and run, its names are looked up. */
public final class ReadmeTest {
    private static final Path README = Path.of("README.md");
    private static final Pattern CALL = Pattern.compile("wood\\.(\\w+)\\((.*)\\); +// (.+)");
    private static final Pattern TOLD = Pattern.compile("(?:([A-Z]+) \\((-\\d+)\\)|(-?\\d+)): .+");
    private static final Pattern WRITTEN = Pattern.compile("(\\d), (0x[0-9A-F]+)L?");

    private ReadmeTest() {
    }

    public static void main(String[] args) throws Exception {
        List<String> blocks = blocks("java");
        Due.about("README.md");
        Due.due("blocks of Java", blocks.size(), 2);
        if (blocks.size() == 2) {
            example(blocks.get(0), blocks.get(1));
        }
        cells();
        constants();
        tests();
        Due.end();
    }

    /** The blocks of a language, without their fences. */
    static List<String> blocks(String language) throws IOException {
        List<String> blocks = new ArrayList<>();
        Matcher block = Pattern.compile("(?ms)^```" + language + "\n(.*?)^```$").matcher(Files.readString(README));
        while (block.find()) {
            blocks.add(block.group(1));
        }
        return blocks;
    }

    private static void example(String example, String tell) throws Exception {
        List<String> calls = new ArrayList<>();
        List<Long> told = new ArrayList<>();
        TreeSet<String> shown = new TreeSet<>();
        for (String line : example.split("\n")) {
            if (line.isBlank() || line.startsWith("// ----") || line.equals("TrapsWatchTraps wood = new TrapsWatchTraps();")) {
                continue;
            }
            Matcher call = CALL.matcher(line);
            Due.dueTrue("a call of the example with its answer: " + line, call.matches());
            if (call.matches()) {
                calls.add(line);
                told.add(answerTold(call.group(3)));
                shown.add(call.group(1));
                writtenAsQuoted(call);
            }
        }
        Due.dueSame("calls that the example shows", shown.toString(), face().toString());
        answersAreAsTold(calls, told, answersOf(example, tell));
    }

    private static long answerTold(String comment) throws Exception {
        Matcher told = TOLD.matcher(comment);
        Due.dueTrue("an answer is told and said in words: " + comment, told.matches());
        if (!told.matches()) {
            return Long.MIN_VALUE;
        }
        if (told.group(1) == null) {
            return Long.parseLong(told.group(3));
        }
        Due.due(told.group(1), TrapsWatchTraps.class.getField(told.group(1)).getInt(null), Long.parseLong(told.group(2)));
        return Long.parseLong(told.group(2));
    }

    /** What a write's comment quotes are the bytes that it writes. */
    private static void writtenAsQuoted(Matcher call) {
        if (!call.group(1).equals("write")) {
            return;
        }
        Matcher written = WRITTEN.matcher(call.group(2));
        Matcher quote = Pattern.compile("\"([^\"]+)\"").matcher(call.group(3));
        boolean isQuoted = written.matches() && quote.find();
        Due.dueTrue("a write quotes what it writes: " + call.group(), isQuoted);
        if (isQuoted) {
            long v = 0;
            for (char sign : quote.group(1).toCharArray()) {
                v = v << 8 | sign;
            }
            Due.due("bytes of " + quote.group(), Long.parseLong(written.group(1)), quote.group(1).length());
            Due.due("value of " + quote.group(), Long.decode(written.group(2)), v);
        }
    }

    private static TreeSet<String> face() {
        TreeSet<String> face = new TreeSet<>();
        for (Method m : TrapsWatchTraps.class.getDeclaredMethods()) {
            if (Modifier.isPublic(m.getModifiers())) {
                face.add(m.getName());
            }
        }
        return face;
    }

    private static void answersAreAsTold(List<String> calls, List<Long> told, List<?> answers) {
        Due.due("answers of the example", answers.size(), calls.size());
        for (int i = 0; i < Math.min(answers.size(), calls.size()); i++) {
            Due.due(calls.get(i), (Long) answers.get(i), told.get(i));
        }
    }

    /** Compiles the example as it stands, and once more with its answers put in a list; asks for these. */
    private static List<?> answersOf(String example, String tell) throws Exception {
        String listed = example.replaceAll("(?m)^(wood\\..*\\));", "answers.add((long) $1);");
        String source = "public final class ReadmeExample {\n"
                + "public static void asItStands() {\n" + example + "}\n"
                + "public static java.util.List<Long> answers() {\n"
                + "java.util.List<Long> answers = new java.util.ArrayList<>();\n" + listed + "return answers;\n}\n"
                + "public static TrapsWatchTraps told(String text) {\n"
                + "TrapsWatchTraps wood = new TrapsWatchTraps();\ntell(wood, text);\nreturn wood;\n}\n" + tell + "}\n";
        Path out = Files.createTempDirectory("readme");
        try {
            Path file = out.resolve("ReadmeExample.java");
            Files.writeString(file, source);
            int faults = ToolProvider.getSystemJavaCompiler().run(null, null, null, "-Xlint:all,-cast", "-Werror",
                    "-cp", System.getProperty("java.class.path"), "-d", out.toString(), file.toString());
            Due.due("faults by which the example does not compile", faults, 0);
            return faults == 0 ? run(out) : List.of();
        } finally {
            delete(out);
        }
    }

    private static List<?> run(Path out) throws Exception {
        try (URLClassLoader loader = new URLClassLoader(new URL[] {out.toUri().toURL()})) {
            Class<?> example = loader.loadClass("ReadmeExample");
            TrapsWatchTraps wood = (TrapsWatchTraps) example.getMethod("told", String.class).invoke(null, "FT0500W");
            Due.due("bytes that tell() wrote", wood.count(0), 7);
            Due.due("fault() of what tell() wrote", wood.fault(), 6);
            wood = (TrapsWatchTraps) example.getMethod("told", String.class).invoke(null, "FT0500G041G07-");
            Due.due("wood() of what tell() wrote", wood.wood(), 12);
            return (List<?>) example.getMethod("answers").invoke(null);
        }
    }

    /** Deletes a directory with all that is in it. */
    static void delete(Path directory) throws IOException {
        List<Path> all;
        try (Stream<Path> walk = Files.walk(directory)) {
            all = new ArrayList<>(walk.toList());
        }
        for (int i = all.size() - 1; i >= 0; i--) {
            Files.delete(all.get(i));
        }
    }

    /** Cells that stand side by side in the page's drawing are neighbours, and no others. */
    private static void cells() throws IOException {
        Due.due("drawings", blocks("text").size(), 1);
        String[] rows = String.join("", blocks("text")).split("\n");
        Due.due("rows", rows.length, 3);
        String[][] drawn = Arrays.stream(rows).map(row -> row.trim().split(" +")).toArray(String[][]::new);
        for (int y = 0; y < drawn.length; y++) {
            Due.due("cells in a row", drawn[y].length, 4);
            for (int x = 0; x < drawn[y].length; x++) {
                int around = 0;
                for (int other = 0; other < 12; other++) {
                    boolean isBeside = Math.abs(other / 4 - y) + Math.abs(other % 4 - x) == 1;
                    around |= isBeside ? 1 << Integer.parseInt(drawn[other / 4][other % 4]) : 0;
                }
                Due.due("near(" + drawn[y][x] + ")", new TrapsWatchTraps().near(Integer.parseInt(drawn[y][x])), around);
            }
        }
    }

    /** Each constant is told with its number. */
    private static void constants() throws Exception {
        String page = Files.readString(README);
        for (java.lang.reflect.Field f : TrapsWatchTraps.class.getFields()) {
            Due.dueTrue(f.getName(), Pattern.compile("`" + f.getName() + "` (\\(|is )" + f.getInt(null) + "\\b").matcher(page).find());
        }
    }

    /** The table has the tests that there are, and whatever bears a class's name on the page is there. */
    private static void tests() throws IOException {
        TreeSet<String> here = new TreeSet<>();
        TreeSet<String> withMain = new TreeSet<>();
        try (Stream<Path> files = Files.list(Path.of("src/test/java"))) {
            for (Path file : files.toList()) {
                String name = file.getFileName().toString().replace(".java", "");
                here.add(name);
                if (Files.readString(file).contains("static void main(")) {
                    withMain.add(name);
                }
            }
        }
        String page = Files.readString(README);
        Due.dueSame("tests in the table", named(page, "(?m)^\\| `(\\w+)` \\|").toString(), withMain.toString());
        Due.dueSame("what stands under src/test/java", named(page, "`([A-Z]\\w*[a-z]\\w*)\\b").toString(), here.toString());
        for (String path : named(page, "`((?:\\.\\./|\\.ci/|src/)[^`]*)`")) {
            Due.dueTrue(path + " is there", Files.exists(Path.of(path)));
        }
    }

    private static TreeSet<String> named(String page, String pattern) {
        TreeSet<String> names = new TreeSet<>();
        Matcher name = Pattern.compile(pattern).matcher(page);
        while (name.find()) {
            names.add(name.group(1));
        }
        return names;
    }
}
