import java.io.IOException;
import java.nio.charset.StandardCharsets;
import java.nio.file.DirectoryStream;
import java.nio.file.Files;
import java.nio.file.Path;
import java.util.LinkedHashMap;
import java.util.Map;
import java.util.regex.Matcher;
import java.util.regex.Pattern;

/** Every sentence of the document from "Terms" on is named by a test: what no test names is told here. */
public final class SentencesTest {
    private static final String TEXT = "\"((?:[^\"\\\\]|\\\\.)*)\"";
    private static final Pattern SAYS =
        Pattern.compile("Due\\.says\\(" + TEXT + ",\\s*(" + TEXT + "(?:\\s*\\+\\s*" + TEXT + ")*)\\)");
    /** What of a section is no sentence: its number, a call's head, the fences. */
    private static final Pattern HEADS = Pattern.compile("(?m)^==== \\d\\.|^```\\w*$|^`[^`]+`:");

    public static void main(String[] args) throws IOException {
        Map<String, boolean[]> named = new LinkedHashMap<>();
        for (Map.Entry<String, String> section : Document.sections().entrySet()) {
            if (section.getKey().matches("Terms|Part \\d|Promise \\d+")) {
                named.put(section.getKey(), new boolean[section.getValue().length()]);
            }
        }
        Due.same("Terms, three parts, 42 promises", named.size(), 46);
        try (DirectoryStream<Path> tests = Files.newDirectoryStream(Path.of("src/test/java"), "*Test.java")) {
            for (Path test : tests) {
                markNamed(named, Files.readString(test, StandardCharsets.UTF_8));
            }
        }
        for (Map.Entry<String, boolean[]> section : named.entrySet()) {
            String rest = notNamed(Document.sections().get(section.getKey()), section.getValue());
            Due.so("no test names of " + section.getKey() + ": " + rest, rest.isEmpty());
        }
        Due.finish();
    }

    private static void markNamed(Map<String, boolean[]> named, String source) {
        Matcher says = SAYS.matcher(source);
        while (says.find()) {
            StringBuilder words = new StringBuilder();
            Matcher part = Pattern.compile(TEXT).matcher(says.group(2));
            while (part.find()) {
                words.append(part.group(1));
            }
            boolean[] marks = named.get(says.group(1));
            int at = marks == null ? -1 : Document.sections().get(says.group(1)).indexOf(words.toString());
            for (int i = 0; at >= 0 && i < words.length(); i++) {
                marks[at + i] = true;
            }
        }
    }

    private static String notNamed(String section, boolean[] marks) {
        Matcher head = HEADS.matcher(section);
        while (head.find()) {
            for (int i = head.start(); i < head.end(); i++) {
                marks[i] = true;
            }
        }
        StringBuilder rest = new StringBuilder();
        for (int i = 0; i < marks.length; i++) {
            rest.append(marks[i] ? ' ' : section.charAt(i));
        }
        return rest.toString().replaceAll("\\s+", " ").trim();
    }
}
