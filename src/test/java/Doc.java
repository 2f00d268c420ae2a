import java.io.IOException;
import java.nio.file.Files;
import java.nio.file.Path;
import java.util.LinkedHashMap;
import java.util.Map;
import java.util.regex.Matcher;
import java.util.regex.Pattern;

/**
 * The sentences of ../shared/DOC.md. Each is quoted once, by the test of its own that it has or as one that names no
 * boundary case; a quotation that the document does not have, and a sentence that nobody quotes, are faults. So a
 * sentence that is changed or new in the document shows itself.
 */
final class Doc {
    private static final Pattern LABEL = Pattern.compile(
        "(Weather|Holders|Policies|Hours|Damage|Claims|Assessors|Setup text|Script text|Tokens|Text errors|Changes"
        + "|Execution of scripts|The constants)[.:] ");
    private static final Pattern PROMISE = Pattern.compile("## (Promise \\d+): .*");
    // What is left between quotations.
    private static final Pattern NOTHING = Pattern.compile("(?:[\\s,;:.-]|\\bor\\b|\\band\\b)*");

    private final Map<String, String> unquoted = new LinkedHashMap<>();
    private String quoted = "";
    private int madeBefore;

    Doc(Path file) throws IOException {
        String section = "";
        boolean inCode = false;
        for (String line : Files.readAllLines(file)) {
            if (line.startsWith("```")) {
                inCode = !inCode;
            } else if (line.startsWith("#")) {
                Matcher promise = PROMISE.matcher(line);
                section = promise.matches() ? promise.group(1) : line.replace("#", "").trim();
            } else {
                Matcher label = LABEL.matcher(line);
                if (!section.startsWith("Promise") && label.lookingAt()) {
                    section = label.group(1);
                    line = line.substring(label.end());
                }
                unquoted.merge(section, wordsOf(section, line) + "\n", String::concat);
            }
        }
        unquoted.remove("WeatherInsurance");
        unquoted.remove("The public face");
        unquoted.remove("Not promised");
    }

    /** What a promise says begins behind the signature, and a parameter without a range only has a name. */
    private static String wordsOf(String section, String line) {
        if (!section.startsWith("Promise")) {
            return line;
        }
        return line.matches("- `[^`]*`: [^0-9]*") ? "" : line.replaceFirst("^`[^`]*\\)[^`]*`:", "");
    }

    /** Begins the test of a sentence: the answers that are compared from here on are told with it. */
    void test(String section, String sentence) {
        endTest();
        quote(section, sentence);
        quoted = section + ": " + sentence;
        madeBefore = Check.made();
        Check.about(quoted);
    }

    /** Sentences that name no boundary case; the tests of their promises look at what they say. */
    void plain(String section, String... sentences) {
        endTest();
        for (String sentence : sentences) {
            quote(section, sentence);
        }
    }

    private void quote(String section, String sentence) {
        String text = unquoted.getOrDefault(section, "");
        int place = text.indexOf(sentence);
        Check.same("the document has, in " + section + ": " + sentence, place >= 0, true);
        if (place >= 0) {
            unquoted.put(section, text.substring(0, place) + "\n" + text.substring(place + sentence.length()));
        }
    }

    private void endTest() {
        Check.about("");
        if (!quoted.isEmpty()) {
            Check.same("something was compared for " + quoted, Check.made() > madeBefore, true);
        }
        quoted = "";
    }

    void end() {
        endTest();
        for (Map.Entry<String, String> section : unquoted.entrySet()) {
            String rest = NOTHING.matcher(section.getValue()).matches() ? "" : section.getValue().trim();
            Check.same("sentences of " + section.getKey() + " that no test quotes", rest, "");
        }
    }
}
