import java.lang.reflect.Constructor;
import java.lang.reflect.Field;
import java.lang.reflect.Method;
import java.lang.reflect.Modifier;
import java.util.Arrays;
import java.util.TreeSet;

/** The public face is the document's, and nothing else of the class is to be seen. */
public final class FaceTest {
    private static final String[] FACE = {
        "int feed(int,int,int,int,int)", "int text(int)", "int fault(int)", "int named(int)", "int block(int,int)",
        "int edge(int,int)", "int base(int)", "int diff(int)", "long law(int,int)", "boolean jump(int)",
        "int check(int)", "int sign(int,int)", "int go(int)", "int ahead(int,int)", "int comes(int)",
        "int slip(int,int)", "int caught(int,int)", "int soonest(int,int)", "int beyond(int,int)", "int cover(int)",
        "int checks(int)", "int bases()", "int only(int)", "int far(int,int)", "int ring(int)", "int nearest(int)",
        "int leaders(int,int,int)", "long holds(int,int)", "int ways(int,int)", "int alike()",
        "int note(int,int,boolean)", "int strike(int)", "boolean known(int)", "int signs(int)", "int ask(int,int)",
        "int chance(int,int)", "int tried(int,int,int)", "int undo()", "int keep()", "int back()", "int count(int)",
    };

    public static void main(String[] args) {
        methods();
        fieldsAndConstructors();
        classesInside();
        Due.finish();
    }

    private static String told(Method m) {
        StringBuilder text = new StringBuilder(m.getReturnType().getName()).append(' ').append(m.getName()).append('(');
        Class<?>[] types = m.getParameterTypes();
        for (int i = 0; i < types.length; i++) {
            text.append(i > 0 ? "," : "").append(types[i].getName());
        }
        return text.append(')').toString();
    }

    private static void methods() {
        TreeSet<String> shown = new TreeSet<>();
        TreeSet<String> publicNames = new TreeSet<>();
        for (Method m : MarkGuards.class.getDeclaredMethods()) {
            if (!Modifier.isPrivate(m.getModifiers())) {
                Due.so("not public: " + m, Modifier.isPublic(m.getModifiers()));
                shown.add(told(m));
                publicNames.add(m.getName());
            }
        }
        Due.so("the face is " + shown, shown.equals(new TreeSet<>(Arrays.asList(FACE))));
        for (Class<?> c : withInside()) {
            for (Method m : c.getDeclaredMethods()) {
                boolean own = c == MarkGuards.class && Modifier.isPublic(m.getModifiers());
                Due.so("a name of the face is used again: " + m, own || !publicNames.contains(m.getName()));
                Due.so("too many parameters: " + m, m.getParameterCount() <= 7);
            }
        }
    }

    private static Class<?>[] withInside() {
        Class<?>[] inside = MarkGuards.class.getDeclaredClasses();
        Class<?>[] all = Arrays.copyOf(inside, inside.length + 1);
        all[inside.length] = MarkGuards.class;
        return all;
    }

    private static void fieldsAndConstructors() {
        Due.so("the class is public and final", Modifier.isPublic(MarkGuards.class.getModifiers())
            && Modifier.isFinal(MarkGuards.class.getModifiers()));
        Due.same("NONE", MarkGuards.NONE, -1);
        for (Field f : MarkGuards.class.getDeclaredFields()) {
            Due.so("to be seen: " + f, Modifier.isPrivate(f.getModifiers()) || f.getName().equals("NONE"));
        }
        for (Class<?> c : withInside()) {
            for (Field f : c.getDeclaredFields()) {
                Due.so("changing static: " + f, !Modifier.isStatic(f.getModifiers()) || Modifier.isFinal(f.getModifiers()));
            }
        }
        Constructor<?>[] made = MarkGuards.class.getDeclaredConstructors();
        Due.so("one public constructor", made.length == 1 && Modifier.isPublic(made[0].getModifiers())
            && made[0].getParameterCount() == 0);
    }

    private static void classesInside() {
        Class<?>[] inside = MarkGuards.class.getDeclaredClasses();
        Due.so("at most twelve classes, there are " + (inside.length + 1), inside.length + 1 <= 12);
        for (Class<?> c : inside) {
            int m = c.getModifiers();
            Due.so("not static or to be seen: " + c, Modifier.isStatic(m) && !Modifier.isPublic(m) && !Modifier.isProtected(m));
            int fields = 0;
            for (Field f : c.getDeclaredFields()) {
                fields += Modifier.isStatic(f.getModifiers()) ? 0 : 1;
            }
            Due.so("more than twenty fields: " + c, fields <= 20);
        }
    }
}
