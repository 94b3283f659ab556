import java.nio.file.Files;
import java.nio.file.Path;
import java.util.LinkedHashMap;
import java.util.Map;

/**
 * Which words of the document a test is about. The tests quote them; at the end each word of the Terms and of
 * the promises must have been quoted by some test, so that no sentence is left out, and none is made up.
 */
final class Sentence {
    private static final Map<String, String> SECTIONS = sections();
    private static final Map<String, boolean[]> QUOTED = new LinkedHashMap<>();

    private Sentence() {
    }

    /** The tests behind this are about these words of a section ("Terms", "Promise 7"). */
    static void of(String section, String words) {
        String text = SECTIONS.getOrDefault(section, "");
        int at = text.indexOf(words);
        Due.about(section + ", \"" + words + "\"");
        Due.dueTrue("these words stand in the document", at >= 0);
        boolean[] quoted = QUOTED.computeIfAbsent(section, name -> new boolean[text.length()]);
        for (int i = at; at >= 0 && i < at + words.length(); i++) {
            quoted[i] = true;
        }
    }

    /** Each word of the document that promises something must have been quoted. */
    static void allQuoted() {
        Due.about("the document");
        for (Map.Entry<String, String> section : SECTIONS.entrySet()) {
            String name = section.getKey();
            if (!name.equals("Terms") && !name.startsWith("Promise ")) continue;
            boolean[] quoted = QUOTED.getOrDefault(name, new boolean[section.getValue().length()]);
            StringBuilder left = new StringBuilder();
            for (int i = 0; i < quoted.length; i++) {
                left.append(quoted[i] ? ' ' : section.getValue().charAt(i));
            }
            String words = left.toString().replaceAll(" +", " ").trim();
            Due.dueTrue(name + ": no test quotes \"" + words + "\"", !words.matches(".*[A-Za-z].*"));
        }
        Due.due("promises", SECTIONS.keySet().stream().filter(name -> name.startsWith("Promise ")).count(), 28);
    }

    private static Map<String, String> sections() {
        Map<String, String> sections = new LinkedHashMap<>();
        for (String section : read().split("(?m)^## ")) {
            int end = section.indexOf('\n');
            String name = section.substring(0, Math.max(0, end)).replaceAll(":.*", "").trim();
            // The names of calls stand in the face, and how the face is parted tells nothing of what calls do.
            String text = section.substring(Math.max(0, end)).replaceAll("```(text)?|====", " ")
                    .replaceAll("Ahead of the calls [^:]*: ---- [a-z ]+\\.", " ")
                    .replaceAll("`[^`]*`:", " ").replaceAll("\\s+", " ");
            sections.put(name, text);
        }
        return sections;
    }

    private static String read() {
        try {
            return Files.readString(Path.of("../shared/DOC.md"));
        } catch (java.io.IOException e) {
            return "";
        }
    }
}
