import java.io.IOException;
import java.nio.file.Files;
import java.nio.file.Paths;
import java.util.LinkedHashMap;
import java.util.Map;
import java.util.regex.Matcher;
import java.util.regex.Pattern;

/** The document's Terms and promises, and which of their words a test has told that it is for. */
final class Doc {
    private static final String PLACE = "../shared/DOC.md";
    private static final Map<String, String> SECTIONS = new LinkedHashMap<>();
    private static final Map<String, boolean[]> TOLD = new LinkedHashMap<>();

    private Doc() {
    }

    /** Terms are the sections 1 to 4, promises P1 and on; a signature, which FaceTest looks at, belongs to none. */
    static void read() throws IOException {
        String text = new String(Files.readAllBytes(Paths.get(PLACE)), java.nio.charset.StandardCharsets.UTF_8);
        text = text.substring(text.indexOf("## Terms"), text.indexOf("## Not promised"));
        Matcher head = Pattern.compile("(?m)^==== (\\d)\\. |^## Promise (\\d+): .*\\n\\s*`[^`]*`:").matcher(text);
        String name = null;
        int begin = 0;
        while (head.find()) {
            put(name, text.substring(begin, head.start()));
            name = head.group(1) != null ? head.group(1) : "P" + head.group(2);
            begin = head.end();
        }
        put(name, text.substring(begin));
        Check.due("sections of " + PLACE, SECTIONS.size(), 4 + 33);
    }

    private static void put(String name, String text) {
        if (name != null) {
            String plain = text.replaceAll("```\\w*", " ").replaceAll("\\s+", " ").trim();
            SECTIONS.put(name, plain);
            TOLD.put(name, new boolean[plain.length()]);
        }
    }

    /** What is compared from here on is for these words of a section. */
    static void says(String section, String words) {
        Check.about(section + " \"" + words + "\"");
        String text = SECTIONS.get(section);
        int at = text == null ? -1 : text.indexOf(words);
        Check.due("the document says so", at < 0 ? 0 : 1, 1);
        while (at >= 0) {
            java.util.Arrays.fill(TOLD.get(section), at, at + words.length(), true);
            at = text.indexOf(words, at + 1);
        }
    }

    /** Each stretch of the document that no test is for is wrong. */
    static void untold() {
        Check.about("");
        for (Map.Entry<String, String> section : SECTIONS.entrySet()) {
            boolean[] told = TOLD.get(section.getKey());
            StringBuilder rest = new StringBuilder();
            for (int i = 0; i < told.length; i++) {
                rest.append(told[i] ? '|' : section.getValue().charAt(i));
            }
            for (String stretch : rest.toString().split("\\|+")) {
                boolean says = Pattern.compile("\\w").matcher(stretch).find();
                Check.due(section.getKey() + ": no test is for \"" + stretch.trim() + "\"", says ? 1 : 0, 0);
            }
        }
    }
}
