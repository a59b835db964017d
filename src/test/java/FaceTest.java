import java.lang.reflect.Constructor;
import java.lang.reflect.Field;
import java.lang.reflect.Method;
import java.lang.reflect.Modifier;
import java.util.Arrays;
import java.util.TreeSet;
import java.util.regex.Matcher;
import java.util.regex.Pattern;

/** The public face is the document's, and nothing else of the class is to be seen. */
public final class FaceTest {
    private static final Pattern PROMISED = Pattern.compile("public (int|long|boolean) (\\w+)\\(([^)]*)\\)( throws [^;]*)?;");

    public static void main(String[] args) {
        methods();
        fieldsAndConstructors();
        classesInside();
        Due.finish();
    }

    /** The methods that the document's face has, without the names of their parameters. */
    private static TreeSet<String> promised() {
        TreeSet<String> face = new TreeSet<>();
        Matcher m = PROMISED.matcher(Document.sections().get("The public face"));
        while (m.find()) {
            String types = m.group(3).replaceAll(" \\w+(?=,|$)", "").replace(", ", ",");
            String thrown = m.group(4) == null ? "" : m.group(4).replace(", ", ",");
            face.add(m.group(1) + " " + m.group(2) + "(" + types + ")" + thrown);
        }
        return face;
    }

    private static String told(Method m) {
        String types = names(m.getParameterTypes());
        String thrown = names(m.getExceptionTypes());
        return m.getReturnType().getName() + " " + m.getName() + "(" + types + ")" + (thrown.isEmpty() ? "" : " throws " + thrown);
    }

    private static String names(Class<?>[] types) {
        StringBuilder text = new StringBuilder();
        for (Class<?> type : types) {
            text.append(text.length() > 0 ? "," : "").append(type.getSimpleName());
        }
        return text.toString();
    }

    private static void methods() {
        TreeSet<String> shown = new TreeSet<>();
        TreeSet<String> publicNames = new TreeSet<>();
        for (Method m : MarkGuards.class.getDeclaredMethods()) {
            if (!Modifier.isPrivate(m.getModifiers())) {
                Due.so("not public: " + m, Modifier.isPublic(m.getModifiers()));
                shown.add(told(m));
                publicNames.add(m.getName());
            }
        }
        Due.same("calls of the document's face", promised().size(), 41);
        Due.so("the face is " + shown + ", due is " + promised(), shown.equals(promised()));
        for (Class<?> c : withInside()) {
            for (Method m : c.getDeclaredMethods()) {
                boolean own = c == MarkGuards.class && Modifier.isPublic(m.getModifiers());
                Due.so("a name of the face is used again: " + m, own || !publicNames.contains(m.getName()));
                Due.so("too many parameters: " + m, m.getParameterCount() <= 7);
            }
        }
    }

    private static Class<?>[] withInside() {
        Class<?>[] inside = MarkGuards.class.getDeclaredClasses();
        Class<?>[] all = Arrays.copyOf(inside, inside.length + 1);
        all[inside.length] = MarkGuards.class;
        return all;
    }

    private static void fieldsAndConstructors() {
        Due.so("the class is public and final", Modifier.isPublic(MarkGuards.class.getModifiers())
            && Modifier.isFinal(MarkGuards.class.getModifiers()));
        Due.same("NONE", MarkGuards.NONE, -1);
        for (Field f : MarkGuards.class.getDeclaredFields()) {
            Due.so("to be seen: " + f, Modifier.isPrivate(f.getModifiers()) || f.getName().equals("NONE"));
        }
        for (Class<?> c : withInside()) {
            for (Field f : c.getDeclaredFields()) {
                Due.so("changing static: " + f, !Modifier.isStatic(f.getModifiers()) || Modifier.isFinal(f.getModifiers()));
            }
        }
        Constructor<?>[] made = MarkGuards.class.getDeclaredConstructors();
        Due.so("one public constructor", made.length == 1 && Modifier.isPublic(made[0].getModifiers())
            && made[0].getParameterCount() == 0);
    }

    private static void classesInside() {
        Class<?>[] inside = MarkGuards.class.getDeclaredClasses();
        Due.so("at most twelve classes, there are " + (inside.length + 1), inside.length + 1 <= 12);
        for (Class<?> c : inside) {
            int m = c.getModifiers();
            Due.so("not static or to be seen: " + c, Modifier.isStatic(m) && !Modifier.isPublic(m) && !Modifier.isProtected(m));
            int fields = 0;
            for (Field f : c.getDeclaredFields()) {
                fields += Modifier.isStatic(f.getModifiers()) ? 0 : 1;
            }
            Due.so("more than twenty fields: " + c, fields <= 20);
        }
    }
}
