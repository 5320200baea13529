import java.io.ByteArrayOutputStream;
import java.io.IOException;
import java.io.PrintStream;
import java.lang.reflect.Method;
import java.lang.reflect.Modifier;
import java.net.URL;
import java.net.URLClassLoader;
import java.nio.charset.StandardCharsets;
import java.nio.file.Files;
import java.nio.file.Path;
import java.nio.file.Paths;
import java.util.Set;
import java.util.TreeSet;
import java.util.regex.Matcher;
import java.util.regex.Pattern;
import java.util.stream.Stream;
import javax.tools.ToolProvider;

/** What README.md tells: its program prints what it says, its table names each call, its list each test. */
public final class ReadmeTest {
    private static final Path TESTS = Paths.get("src/test/java");

    public static void main(String[] args) throws Exception {
        String text = Files.readString(Paths.get("README.md"), StandardCharsets.UTF_8);
        String[] due = block(text, "text").split("\n");
        String[] printed = run(block(text, "java")).split("\n");
        Check.due("lines printed", printed.length, due.length);
        for (int i = 0; i < due.length && i < printed.length; i++) {
            Check.due("\"" + printed[i] + "\" is \"" + due[i] + "\"", printed[i].equals(due[i]) ? 1 : 0, 1);
        }
        namesEachCall(text);
        namesEachTest(text);
        Check.end("ReadmeTest");
    }

    private static String block(String text, String kind) {
        Matcher found = Pattern.compile("(?s)```" + kind + "\n(.*?)```").matcher(text);
        boolean is = found.find();
        Check.due("a block of " + kind, is ? 1 : 0, 1);
        return is ? found.group(1) : "";
    }

    private static String run(String program) throws Exception {
        Path place = Files.createTempDirectory("readme");
        Path file = place.resolve("Window.java");
        Files.writeString(file, program);
        int bad = ToolProvider.getSystemJavaCompiler().run(null, null, null, "-d", place.toString(),
                file.toString(), "src/main/java/TinTower.java");
        Check.due("the program is refused", bad, 0);
        PrintStream before = System.out;
        ByteArrayOutputStream printed = new ByteArrayOutputStream();
        try (URLClassLoader loader = new URLClassLoader(new URL[] {place.toUri().toURL()}, null)) {
            System.setOut(new PrintStream(printed, true, StandardCharsets.UTF_8));
            loader.loadClass("Window").getMethod("main", String[].class).invoke(null, (Object) new String[0]);
        } finally {
            System.setOut(before);
            remove(place);
        }
        return printed.toString(StandardCharsets.UTF_8).replace("\r", "");
    }

    private static void remove(Path place) throws IOException {
        try (Stream<Path> files = Files.list(place)) {
            for (Path file : (Iterable<Path>) files::iterator) {
                Files.delete(file);
            }
        }
        Files.delete(place);
    }

    private static void namesEachCall(String text) {
        Set<String> named = new TreeSet<>();
        for (String line : text.split("\n")) {
            Matcher name = Pattern.compile("`(\\w+)`").matcher(line);
            while (line.startsWith("|") && name.find()) {
                named.add(name.group(1));
            }
        }
        for (Method method : TinTower.class.getDeclaredMethods()) {
            if (Modifier.isPublic(method.getModifiers())) {
                Check.due("the table names " + method.getName(), named.remove(method.getName()) ? 1 : 0, 1);
            }
        }
        Check.due("the table names what is no call: " + named, named.size(), 0);
    }

    private static void namesEachTest(String text) throws IOException {
        String list = text.substring(text.indexOf("## Tests"));
        try (Stream<Path> files = Files.list(TESTS)) {
            for (Path file : (Iterable<Path>) files::iterator) {
                String name = file.getFileName().toString().replace(".java", "");
                if (name.endsWith("Test")) {
                    Check.due("the list names " + name, list.contains("`" + name + "`") ? 1 : 0, 1);
                }
            }
        }
    }
}
