import java.io.ByteArrayOutputStream;
import java.io.IOException;
import java.io.PrintStream;
import java.lang.reflect.Field;
import java.lang.reflect.Method;
import java.lang.reflect.Modifier;
import java.nio.file.DirectoryStream;
import java.nio.file.Files;
import java.nio.file.Path;
import java.util.Set;
import java.util.TreeSet;
import java.util.regex.Matcher;
import java.util.regex.Pattern;

/** What README.md says: its program and what that prints, the calls, and the tests. */
public final class ReadmeTest {
    private static final Path TESTS = Path.of("src/test/java");

    public static void main(String[] args) throws IOException {
        String readme = Files.readString(Path.of("README.md"));
        String document = Files.readString(Path.of(args.length > 1 ? args[1] : "../shared/DOC.md"));
        String calls = section(readme, "The calls");
        Check.same("the program", block(readme, "java"), Files.readString(TESTS.resolve("ReadmeExample.java")));
        Check.same("what the program prints", block(readme, "text"), printed());
        Check.same("the statements", block(calls, "text"), statements(document));
        Check.same("the calls and constants", quoted(calls, "`((?!\\w*Exception)\\w+)`"), shown());
        Check.same("the tests", quoted(section(readme, "Tests"), "`(\\w+Test)`"), tests());
        Check.end();
    }

    /** The first block of its language. */
    private static String block(String readme, String language) {
        String start = "```" + language + "\n";
        int from = readme.indexOf(start) + start.length();
        return readme.substring(from, readme.indexOf("```", from));
    }

    private static String section(String readme, String title) {
        int from = readme.indexOf("\n## " + title + "\n") + 4;
        int to = readme.indexOf("\n## ", from);
        return readme.substring(from, to < 0 ? readme.length() : to);
    }

    /** The statements of a setup and those of a script, each on a line of its own. */
    private static String statements(String document) {
        String scripts = document.substring(document.indexOf("\nScript text."));
        String both = block(document, "text") + "\n" + block(scripts, "text");
        return both.replace(" | ", "\n").replace("  ", "");
    }

    private static String printed() {
        PrintStream usual = System.out;
        ByteArrayOutputStream bytes = new ByteArrayOutputStream();
        System.setOut(new PrintStream(bytes, true));
        try {
            ReadmeExample.main(new String[0]);
        } finally {
            System.setOut(usual);
        }
        return bytes.toString().replace("\r", "");
    }

    private static Set<String> quoted(String text, String pattern) {
        Set<String> names = new TreeSet<>();
        Matcher matcher = Pattern.compile(pattern).matcher(text);
        while (matcher.find()) {
            names.add(matcher.group(1));
        }
        return names;
    }

    private static Set<String> shown() {
        Set<String> names = new TreeSet<>();
        for (Method method : WeatherInsurance.class.getDeclaredMethods()) {
            if (Modifier.isPublic(method.getModifiers())) {
                names.add(method.getName());
            }
        }
        for (Field field : WeatherInsurance.class.getDeclaredFields()) {
            if (Modifier.isPublic(field.getModifiers())) {
                names.add(field.getName());
            }
        }
        return names;
    }

    private static Set<String> tests() throws IOException {
        Set<String> names = new TreeSet<>();
        try (DirectoryStream<Path> files = Files.newDirectoryStream(TESTS, "*Test.java")) {
            for (Path file : files) {
                names.add(file.getFileName().toString().replace(".java", ""));
            }
        }
        return names;
    }
}
