import java.io.IOException;
import java.lang.reflect.Field;
import java.lang.reflect.Member;
import java.lang.reflect.Method;
import java.lang.reflect.Modifier;
import java.nio.file.Files;
import java.nio.file.Path;
import java.util.ArrayList;
import java.util.List;
import java.util.TreeSet;
import java.util.regex.Matcher;
import java.util.regex.Pattern;

/** The public face: what the class shows is what the document's face says, to the letter, and nothing else. */
public final class FaceTest {
    private static final Pattern BLOCK = Pattern.compile("## The public face\n+```java\n(.*?)```", Pattern.DOTALL);
    private static final Pattern NAME = Pattern.compile("(\\w+)(?: = -?\\d+;|\\()");

    public static void main(String[] args) throws IOException {
        String source = Files.readString(Path.of(args.length > 0 ? args[0] : "src/main/java/WeatherInsurance.java"));
        String document = Files.readString(Path.of(args.length > 1 ? args[1] : "../shared/DOC.md"));
        Matcher block = BLOCK.matcher(document);
        Check.same("the document has a public face", block.find(), true);
        List<String> names = new ArrayList<>();
        for (String line : block.group(1).split("\n")) {
            stands(line.trim(), source.replaceAll("\\s+", " "));
            Matcher name = NAME.matcher(line);
            if (name.find()) {
                names.add(name.group(1));
            }
        }
        Check.same("constants, the constructor and methods in the document", names.size(), 13 + 1 + 60);
        Check.same("all that is not private", new TreeSet<>(shown()), new TreeSet<>(names));
        Check.same("how many are not private", shown().size(), names.size());
        Check.same("the import alone", source.split("\nimport ").length + (source.startsWith("import ") ? 0 : -1), 1);
        Check.end();
    }

    /** A line of the face is in the source as it stands, but that a method goes on with its body. */
    private static void stands(String line, String source) {
        String due = line.contains("(") ? line.substring(0, line.length() - 1) + " {" : line;
        Check.same("the source has: " + due, source.contains(due), true);
    }

    private static List<String> shown() {
        List<String> shown = new ArrayList<>();
        for (Field field : WeatherInsurance.class.getDeclaredFields()) {
            show(shown, field, field.getName());
        }
        for (Method method : WeatherInsurance.class.getDeclaredMethods()) {
            show(shown, method, method.getName());
        }
        for (Member constructor : WeatherInsurance.class.getDeclaredConstructors()) {
            show(shown, constructor, constructor.getName());
        }
        for (Class<?> part : WeatherInsurance.class.getDeclaredClasses()) {
            Check.same("private: " + part, Modifier.isPrivate(part.getModifiers()), true);
        }
        return shown;
    }

    private static void show(List<String> shown, Member member, String name) {
        if (!Modifier.isPrivate(member.getModifiers()) && !member.isSynthetic()) {
            shown.add(name);
            Check.same("public: " + member, Modifier.isPublic(member.getModifiers()), true);
        }
    }
}
