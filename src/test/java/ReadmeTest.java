import java.io.IOException;
import java.lang.reflect.Method;
import java.lang.reflect.Modifier;
import java.net.URL;
import java.net.URLClassLoader;
import java.nio.charset.StandardCharsets;
import java.nio.file.DirectoryStream;
import java.nio.file.Files;
import java.nio.file.Path;
import java.util.ArrayList;
import java.util.Comparator;
import java.util.List;
import java.util.function.Consumer;
import java.util.regex.Matcher;
import java.util.regex.Pattern;
import java.util.stream.Stream;
import javax.tools.ToolProvider;

/**
 * What README.md shows as a call and its answer is what the class answers. Its Java is made into one class, a method
 * first of all where a piece begins with "static", else statements; "CALL; // ANSWER: words" is a comparison then.
 */
public final class ReadmeTest {
    private static final Pattern PIECE = Pattern.compile("(?ms)^```java\n(.*?)^```$");
    private static final Pattern SHOWN = Pattern.compile("(?s)(.*); // (throws (\\w+)|-?\\d+|true|false)(?=:|$)[^\n]*");
    private static final String NAME = "ReadmeCalls";

    public static void main(String[] args) throws Exception {
        String page = Files.readString(Path.of("README.md"), StandardCharsets.UTF_8);
        runPieces(page);
        callsShown(page);
        testsNamed(page);
        Due.so("README.md says how the tests are run", page.contains("\n    .ci/run\n"));
        Due.finish();
    }

    private static void runPieces(String page) throws Exception {
        StringBuilder members = new StringBuilder();
        StringBuilder statements = new StringBuilder();
        Matcher piece = PIECE.matcher(page);
        while (piece.find()) {
            if (piece.group(1).startsWith("static ")) {
                members.append(piece.group(1));
            } else {
                // a piece that makes an object begins anew, others go on with the one ahead
                boolean anew = piece.group(1).startsWith("MarkGuards x = ");
                statements.append(anew && statements.length() > 0 ? "} {\n" : "");
                statements.append(comparisons(piece.group(1)));
            }
        }
        Due.so("README.md shows calls", statements.length() > 0);
        run("public final class " + NAME + " {\n" + members + helpers()
            + "public static void run(java.util.function.Consumer<String> due) {\n{\n" + statements + "}\n}\n}\n");
    }

    private static String comparisons(String piece) {
        StringBuilder text = new StringBuilder();
        String statement = "";
        for (String line : piece.split("\n")) {
            statement = statement.isEmpty() ? line : statement + "\n" + line;
            if (line.contains("; // ") || line.endsWith(";")) {
                text.append(comparison(statement)).append('\n');
                statement = "";
            }
        }
        Due.so("not ended: " + statement, statement.isEmpty());
        return text.toString();
    }

    private static String comparison(String statement) {
        Matcher shown = SHOWN.matcher(statement);
        if (!shown.matches()) {
            Due.so("an answer can't be read: " + statement, !statement.contains("//"));
            return statement;
        }
        String call = shown.group(1);
        String told = "\"" + call.replace("\"", "'").replace("\n", " ") + "\"";
        if (shown.group(3) == null) {
            return "same(due, " + told + ", \"\" + " + call + ", \"" + shown.group(2) + "\");";
        }
        return "try { same(due, " + told + ", \"\" + " + call + ", \"an exception\"); } catch (RuntimeException e) { same(due, "
            + told + ", e.getClass().getSimpleName(), \"" + shown.group(3) + "\"); }";
    }

    private static String helpers() {
        return "static void same(java.util.function.Consumer<String> due, String call, String got, String want) {\n"
            + "due.accept(got.equals(want) ? \"\" : call + \" answered \" + got + \", README.md says \" + want);\n}\n";
    }

    private static void run(String source) throws Exception {
        Path place = Files.createTempDirectory("readme");
        try {
            Path file = place.resolve(NAME + ".java");
            Files.writeString(file, source, StandardCharsets.UTF_8);
            int code = ToolProvider.getSystemJavaCompiler().run(null, null, null, "-cp",
                System.getProperty("java.class.path"), "-d", place.toString(), file.toString());
            Due.same("compiling what README.md shows", code, 0);
            if (code == 0) {
                URL[] where = {place.toUri().toURL()};
                try (URLClassLoader loader = new URLClassLoader(where, ReadmeTest.class.getClassLoader())) {
                    Consumer<String> due = wrong -> Due.so(wrong, wrong.isEmpty());
                    loader.loadClass(NAME).getMethod("run", Consumer.class).invoke(null, due);
                }
            }
        } finally {
            remove(place);
        }
    }

    private static void remove(Path place) throws IOException {
        List<Path> found = new ArrayList<>();
        try (Stream<Path> all = Files.walk(place)) {
            all.sorted(Comparator.reverseOrder()).forEach(found::add);
        }
        for (Path path : found) {
            Files.delete(path);
        }
    }

    private static void callsShown(String page) {
        for (Method m : MarkGuards.class.getDeclaredMethods()) {
            if (Modifier.isPublic(m.getModifiers())) {
                boolean shown = Pattern.compile("(?m)^x\\." + m.getName() + "\\([^)]*\\); // \\S").matcher(page).find();
                Due.so("README.md shows no call of " + m.getName(), shown);
            }
        }
    }

    private static void testsNamed(String page) throws IOException {
        List<String> there = new ArrayList<>();
        try (DirectoryStream<Path> tests = Files.newDirectoryStream(Path.of("src/test/java"), "*Test.java")) {
            for (Path test : tests) {
                there.add(test.getFileName().toString().replace(".java", ""));
            }
        }
        for (String name : there) {
            Due.so("README.md doesn't name " + name, page.contains("`" + name + "`"));
        }
        Matcher named = Pattern.compile("`(\\w+Test)`").matcher(page);
        while (named.find()) {
            Due.so("README.md names a test that isn't there: " + named.group(1), there.contains(named.group(1)));
        }
    }
}
