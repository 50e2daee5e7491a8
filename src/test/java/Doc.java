import java.io.IOException;
import java.nio.file.Files;
import java.nio.file.Path;
import java.util.Arrays;
import java.util.LinkedHashMap;
import java.util.Map;

/** The document's words by sections ("Terms", "2", "3", "4", "Promise 1" ..), and which of them a test has quoted. */
final class Doc {
    private static final Path PLACE = Path.of("../shared/DOC.md");
    private static final Map<String, String> SECTIONS = read();
    private static final Map<String, boolean[]> QUOTED = new LinkedHashMap<>();

    private Doc() {
    }

    private static Map<String, String> read() {
        Map<String, String> sections = new LinkedHashMap<>();
        String text;
        try {
            text = Files.readString(PLACE);
        } catch (IOException e) {
            return sections;
        }
        int from = text.indexOf("## Terms");
        int to = text.indexOf("## Not promised");
        Due.is("the document has its parts", from >= 0 && to > from, true);
        String body = text.substring(Math.max(from, 0), Math.max(to, Math.max(from, 0)));
        String marked = body.replaceAll("```(text)?", "").replaceAll("==== (\\d)\\.", "\n## $1\n");
        for (String part : marked.split("(?m)^ *## ")) {
            String head = part.lines().findFirst().orElse("").replaceAll(":.*", "").trim();
            if (!head.isEmpty()) {
                String rest = part.substring(part.indexOf('\n')).replaceFirst("\\A\\s*`[^`]*`:", "");
                sections.put(head, rest.replaceAll("\\s+", " "));
            }
        }
        return sections;
    }

    static void quote(String section, String words) {
        if (SECTIONS.isEmpty()) {
            return;
        }
        String text = SECTIONS.getOrDefault(section, "");
        boolean[] quoted = QUOTED.computeIfAbsent(section, s -> new boolean[text.length()]);
        int at = text.indexOf(words);
        Due.is("the document has \"" + words + "\" in " + section, at >= 0, true);
        for (; at >= 0; at = text.indexOf(words, at + 1)) {
            Arrays.fill(quoted, at, at + words.length(), true);
        }
    }

    /** Each word of the document is quoted by a test. */
    static void allQuoted() {
        for (Map.Entry<String, String> section : SECTIONS.entrySet()) {
            String text = section.getValue();
            boolean[] quoted = QUOTED.getOrDefault(section.getKey(), new boolean[text.length()]);
            StringBuilder left = new StringBuilder();
            for (int i = 0; i < text.length(); i++) {
                left.append(quoted[i] ? '|' : text.charAt(i));
            }
            String rest = left.toString().replaceAll("[^A-Za-z0-9]*\\|[^A-Za-z0-9]*", "|").replaceAll("\\|+", "|");
            Due.is("what no test quotes of " + section.getKey(), rest, "|");
        }
    }
}
