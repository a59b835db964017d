import java.io.IOException;
import java.nio.charset.StandardCharsets;
import java.nio.file.Files;
import java.nio.file.Path;
import java.util.regex.Matcher;
import java.util.regex.Pattern;

/** What of LANGUAGE.md the source can show. */
public final class SourceTest {
    private static final String[] BANNED = {"synchronized", "assert ", "finally", "->", "::", "Exact(", "static {",
        "package ", "System.out", "Random", "Thread", "System.nano", "System.current", "hashCode", "getMessage",
        "try {", "catch", "ordinal(", "toString", "NegativeArraySize", "ArrayIndexOutOf", "NullPointer", "float",
        "double", "Integer>", "extends", "import java.io", "@Suppress"};

    public static void main(String[] args) throws IOException {
        String source = Files.readString(Path.of("src/main/java/MarkGuards.java"), StandardCharsets.ISO_8859_1);
        String code = source.replaceAll("(?s)/\\*.*?\\*/", "").replaceAll("//[^\n]*", "");
        for (String banned : BANNED) {
            Due.so("the source has " + banned, !code.contains(banned));
        }
        Due.so("one import alone", code.indexOf("import ") == code.lastIndexOf("import ")
            && code.contains("import java.util.NoSuchElementException;"));
        shortMethods(source);
        throwing(code);
        Due.finish();
    }

    private static void shortMethods(String source) {
        String[] lines = source.split("\n");
        int start = -1;
        String indent = "";
        for (int i = 0; i < lines.length; i++) {
            Matcher head = Pattern.compile("^( {4,8})(?! )[^=;]*\\([^;]*\\)[^;=]*\\{$").matcher(lines[i]);
            if (head.find()) {
                start = i;
                indent = head.group(1);
            } else if (start >= 0 && lines[i].equals(indent + "}")) {
                Due.so("longer than sixty lines: " + lines[start], i - start <= 60);
                start = -1;
            }
        }
    }

    private static void throwing(String code) {
        Matcher m = Pattern.compile("throw\\s+([^;]*);").matcher(code);
        while (m.find()) {
            Due.so("throws " + m.group(1), m.group(1).matches("new [A-Za-z]+Exception\\(\"[a-z ]*\"\\)"));
        }
    }
}
