import java.io.IOException;
import java.nio.file.Files;
import java.nio.file.Paths;
import java.util.List;
import java.util.regex.Matcher;
import java.util.regex.Pattern;

/** What of the rules of ../shared/LANGUAGE.md can be seen in the text of the class line by line. */
public final class LanguageTest {
    private static final String[] NEVER = {"->", "::", "\\bfinally\\b", "\\bassert\\b", "\\bsynchronized\\b", "\\bcatch\\b",
        "\\bString\\b[^(]*\\+", "\\.equals\\(", "\\bdouble\\b", "\\bfloat\\b", "\\bSystem\\.(out|err|nano|current)", "Exact\\(",
        "\\bpackage\\b", "\\bnative\\b", "\\bvolatile\\b", "\\bThread\\b", "^\\s*static\\s*\\{", "\\bstatic (?!final)(int|long|boolean|byte)\\b[^(]*[;=]",
        "\\[\\]\\[\\]\\[\\]", "\"\\s*\\+", "\\+\\s*\"", "\\bObject\\b", "[^\\x00-\\x7f]"};

    public static void main(String[] args) throws IOException {
        List<String> lines = Files.readAllLines(Paths.get("src/main/java/TinTower.java"));
        int number = 0;
        int imports = 0;
        int classes = 0;
        int begin = -1;
        String end = "";
        for (String line : lines) {
            number++;
            String code = line.replaceAll("//.*|^\\s*/?\\*.*", "");
            for (String never : NEVER) {
                Check.due("line " + number + ": " + never, Pattern.compile(never).matcher(code).find() ? 1 : 0, 0);
            }
            imports += code.startsWith("import ") ? 1 : 0;
            classes += Pattern.compile("\\bclass\\b").matcher(code).find() ? 1 : 0;
            Check.due("line " + number + " is no longer than 150", line.length() > 150 ? 1 : 0, 0);
            Matcher head = Pattern.compile("^( {4}| {8})(\\S.*)\\) (throws .*)?\\{$").matcher(line);
            if (head.find() && !code.matches("\\s*(\\} )?(if|for|while|switch|else|catch)\\b.*")) {
                begin = number;
                end = head.group(1) + "}";
                int parameters = head.group(2).endsWith("(") ? 0 : head.group(2).split(",").length;
                Check.due("line " + number + " has at most seven parameters", parameters > 7 ? 1 : 0, 0);
            }
            if (line.equals(end)) {
                Check.due("the method of line " + begin + " is short", number - begin > 60 ? 1 : 0, 0);
                end = "";
            }
        }
        Check.due("imports", imports, 1);
        Check.due("at most twelve classes", classes > 12 ? classes : 12, 12);
        Check.end("LanguageTest");
    }
}
