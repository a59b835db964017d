import java.io.IOException;
import java.nio.charset.StandardCharsets;
import java.nio.file.Files;
import java.nio.file.Path;
import java.util.LinkedHashMap;
import java.util.Map;

/** The document's sections by short names: "Terms", "Part 2" to "Part 4", "Promise 1" to "Promise 42", and the rest. */
final class Document {
    private static Map<String, String> sections;

    private Document() {
    }

    static Map<String, String> sections() {
        if (sections == null) {
            sections = split();
        }
        return sections;
    }

    private static Map<String, String> split() {
        Map<String, String> found = new LinkedHashMap<>();
        String name = "";
        for (String line : lines()) {
            if (line.startsWith("## ")) {
                name = line.startsWith("## Promise ") ? line.substring(3, line.indexOf(':')) : line.substring(3);
            } else {
                if (line.startsWith("==== ")) {
                    name = "Part " + line.charAt(5);
                }
                found.merge(name, line + "\n", String::concat);
            }
        }
        return found;
    }

    private static Iterable<String> lines() {
        try {
            return Files.readAllLines(Path.of("../shared/DOC.md"), StandardCharsets.UTF_8);
        } catch (IOException e) {
            throw new IllegalStateException("the document can't be read", e);
        }
    }

    static boolean says(String section, String words) {
        return sections().getOrDefault(section, "").contains(words);
    }
}
