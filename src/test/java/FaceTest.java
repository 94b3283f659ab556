import java.lang.reflect.Constructor;
import java.lang.reflect.Field;
import java.lang.reflect.Member;
import java.lang.reflect.Method;
import java.lang.reflect.Modifier;
import java.nio.file.Files;
import java.nio.file.Path;
import java.util.ArrayList;
import java.util.Arrays;
import java.util.List;
import java.util.TreeSet;
import java.util.regex.Matcher;
import java.util.regex.Pattern;

/** The public face as the document has it, and those rules of LANGUAGE.md that a reader of the source can check. */
public final class FaceTest {
    private static final String[] FACE = {
        "all() int", "again(int) int", "arm(int) int", "count(int) int", "fault() int", "first(int) int",
        "free(int) int", "frost(boolean) int", "keep(int) int", "look(int,int) int", "near(int) int",
        "night(int) int", "oneMore(int,int) int", "rings() int", "safe(int,int) int", "safeAt(int,int,int) int",
        "seed(long) long", "sprung(int) int", "step(int,int) int", "strays(int,int,boolean) int",
        "toLook(int) int", "trap(int,int) int", "undo() int", "walker(int,int) int", "wipe() int", "wood() int",
        "write(int,long) int"};
    private static final String[] CONSTANTS = {"FULL=-4", "NONE=-9", "OUTSIDE=-2", "STATE=-3", "UNKNOWN=-1"};

    private FaceTest() {
    }

    public static void main(String[] args) throws Exception {
        face();
        faceOfDocument();
        nested();
        source();
        extremes();
        Due.end();
    }

    private static void face() throws Exception {
        Class<?> c = TrapsWatchTraps.class;
        Due.dueTrue("public, final", Modifier.isPublic(c.getModifiers()) && Modifier.isFinal(c.getModifiers()));
        TreeSet<String> methods = new TreeSet<>();
        for (Method m : c.getDeclaredMethods()) {
            if (isOpen(m)) {
                List<String> types = new ArrayList<>();
                for (Class<?> p : m.getParameterTypes()) types.add(p.getName());
                methods.add(m.getName() + "(" + String.join(",", types) + ") " + m.getReturnType().getName());
                Due.dueTrue(m.getName() + " is public, not static", m.getModifiers() == Modifier.PUBLIC);
            }
        }
        Due.dueSame("methods", methods.toString(), new TreeSet<>(Arrays.asList(FACE)).toString());
        TreeSet<String> constants = new TreeSet<>();
        for (Field f : c.getDeclaredFields()) {
            if (isOpen(f)) constants.add(f.getName() + "=" + f.getInt(null));
            Due.dueTrue(f + ": static ones are final", !Modifier.isStatic(f.getModifiers()) || Modifier.isFinal(f.getModifiers()));
        }
        Due.dueSame("constants", constants.toString(), new TreeSet<>(Arrays.asList(CONSTANTS)).toString());
        Constructor<?>[] made = c.getDeclaredConstructors();
        Due.due("constructors", made.length, 1);
        Due.dueTrue("public, without arguments", Modifier.isPublic(made[0].getModifiers()) && made[0].getParameterCount() == 0);
    }

    /** The lists above are those of the document. */
    private static void faceOfDocument() throws Exception {
        String document = Files.readString(Path.of("../shared/DOC.md"));
        TreeSet<String> methods = new TreeSet<>();
        Matcher method = Pattern.compile("(?m)^    public (int|long) (\\w+)\\((.*)\\);$").matcher(document);
        while (method.find()) {
            String types = method.group(3).replaceAll(" \\w+(, |$)", ",").replaceAll(",$", "");
            methods.add(method.group(2) + "(" + types + ") " + method.group(1));
        }
        Due.dueSame("methods of the document", methods.toString(), new TreeSet<>(Arrays.asList(FACE)).toString());
        TreeSet<String> constants = new TreeSet<>();
        Matcher told = Pattern.compile("(?m)^    public static final int (.*);$").matcher(document);
        while (told.find()) {
            constants.addAll(Arrays.asList(told.group(1).replace(" ", "").split(",")));
        }
        Due.dueSame("constants of the document", constants.toString(), new TreeSet<>(Arrays.asList(CONSTANTS)).toString());
        Due.dueTrue("the class of the document", document.contains("\npublic final class TrapsWatchTraps {\n"));
        Due.dueTrue("its constructor", document.contains("\n    public TrapsWatchTraps();\n"));
    }

    private static boolean isOpen(Member m) {
        return !Modifier.isPrivate(m.getModifiers()) && !m.isSynthetic();
    }

    private static void nested() {
        TreeSet<String> open = new TreeSet<>();
        for (String m : FACE) open.add(m.substring(0, m.indexOf('(')));
        Class<?>[] inside = TrapsWatchTraps.class.getDeclaredClasses();
        Due.dueTrue("at most twelve classes", inside.length < 12);
        for (Class<?> c : inside) {
            Due.dueTrue(c + " is static", Modifier.isStatic(c.getModifiers()));
            Due.dueTrue(c + " is not public", !Modifier.isPublic(c.getModifiers()) && !Modifier.isProtected(c.getModifiers()));
            Due.dueTrue(c + " has few fields", c.getDeclaredFields().length <= 20);
            for (Method m : c.getDeclaredMethods()) {
                Due.dueTrue(m + " bears a name of its own", !open.contains(m.getName()));
                Due.dueTrue(m + " takes at most seven", m.getParameterCount() <= 7);
            }
        }
        for (Method m : TrapsWatchTraps.class.getDeclaredMethods()) {
            boolean isPrivate = Modifier.isPrivate(m.getModifiers());
            Due.dueTrue(m + " bears a name of its own", !isPrivate || !open.contains(m.getName()));
        }
    }

    private static void source() throws Exception {
        String source = Files.readString(Path.of("src/main/java/TrapsWatchTraps.java"));
        for (char sign : source.toCharArray()) Due.dueTrue("a sign of 1 to 127", sign >= 1 && sign <= 127);
        String code = source.replaceAll("(?s)/\\*.*?\\*/", " ").replaceAll("//[^\n]*", " ");
        Matcher banned = Pattern.compile("\\b(package|import|throw|throws|try|catch|finally|synchronized|assert|"
                + "double|float|String|System|Thread|Object|lambda|var|volatile|native)\\b|->|::|@").matcher(code);
        Due.dueTrue("a word outside the language", !banned.find());
        String[] lines = source.split("\n");
        for (String line : lines) {
            // The room: rows are made with the object, as fields, and never by a call.
            boolean isField = line.matches(" +((private )?final \\S+ \\w+|[\\w\\[\\]]+) = new .*;");
            Due.dueTrue("made by a call: " + line, isField || !line.contains("new "));
            Due.dueTrue("a line too long: " + line, line.length() <= 120);
        }
        for (int indent : new int[] {4, 8}) methodsAreShort(lines, " ".repeat(indent));
    }

    private static void methodsAreShort(String[] lines, String indent) {
        int from = -1;
        for (int i = 0; i < lines.length; i++) {
            if (lines[i].matches(indent + "[a-zA-Z].*\\) \\{") && !lines[i].matches(" +(if|for|while|switch) .*")) from = i;
            if (lines[i].equals(indent + "}") && from >= 0) {
                Due.dueTrue("methods stay short: " + lines[from], i - from <= 60);
                from = -1;
            }
        }
    }

    /** No call throws, whatever it is given, in a new object and in a full one. */
    private static void extremes() {
        int[] odd = {Integer.MIN_VALUE, -10, -9, -1, 0, 1, 3, 4, 5, 6, 11, 12, 13, 31, 32, 33, 63, 64, Integer.MAX_VALUE};
        for (int a : odd) {
            for (int which = 0; which < 2; which++) {
                String full = "FT0000T0112T0201T0503T0604T1000W01W12W24W45G040G05-G091G000";
                TrapsWatchTraps x = which == 0 ? new TrapsWatchTraps() : Due.woodOf(full);
                for (int b : odd) {
                    x.write(a, b);
                    x.trap(a, b);
                    x.walker(a, b);
                    x.near(a);
                    x.step(a, b);
                    x.arm(a);
                    x.look(a, b);
                    x.free(a);
                    x.sprung(a);
                    x.first(a);
                    x.safe(a, b);
                    x.safeAt(a, b, a);
                    x.safeAt(a, a, b);
                    x.toLook(a);
                    x.strays(a, b, true);
                    x.strays(a, b, false);
                    x.oneMore(a, b);
                    x.night(a);
                    x.keep(a);
                    x.again(a);
                    x.count(a);
                    x.undo();
                }
                Due.due("TRAPS stay", x.count(1), which == 0 ? 0 : 6);
            }
        }
    }
}
