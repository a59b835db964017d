import java.lang.reflect.InvocationTargetException;
import java.lang.reflect.Method;
import java.lang.reflect.Modifier;
import java.util.NoSuchElementException;

/** Whatever numbers a call is given, in whatever state: nothing is thrown but what block promises. */
public final class ExtremesTest {
    private static final int[] NUMBERS = {Integer.MIN_VALUE, -1, 0, 1, 7, 8, 16, 24, 256, Integer.MAX_VALUE};
    /** Of 512, an object's most, some are for the text and the notes. */
    private static final int CALLS = 400;
    private static final int[] FEW = {Integer.MIN_VALUE, 0, Integer.MAX_VALUE};
    private static final String FULL = fullProgram();
    private static final String[] PROGRAMS = {
        "", "block a 255 99;", "block a 0 0;edge a a;check a;jump 100;", FULL,
        "block a 1 1;block b 2 2;block c 3 3;edge a b;edge b c;edge c a;edge a c;jump 50;law out 1/0;law turn 1/0;law land 1/0;"
    };

    public static void main(String[] args) throws IllegalAccessException {
        for (String program : PROGRAMS) {
            for (Method m : MarkGuards.class.getDeclaredMethods()) {
                if (Modifier.isPublic(m.getModifiers())) {
                    callAll(program, m);
                }
            }
        }
        Due.finish();
    }

    private static String fullProgram() {
        StringBuilder text = new StringBuilder();
        for (int b = 0; b < 8; b++) {
            text.append("block ").append((char) ('a' + b)).append(" 255 99;");
        }
        for (int e = 0; e < 16; e++) {
            text.append("edge ").append((char) ('a' + e / 2)).append(' ').append((char) ('g' + e % 2)).append(';');
        }
        return text.append("check h;jump 50;limit 40;seed 99999;").toString();
    }

    private static void callAll(String program, Method m) throws IllegalAccessException {
        int count = m.getParameterCount();
        int[] numbers = count > 3 ? FEW : NUMBERS;
        int all = 1;
        for (int i = 0; i < count; i++) {
            all *= numbers.length;
        }
        MarkGuards x = prepared(program, m);
        for (int k = 0; k < all; k++) {
            if (k % CALLS == CALLS - 1) {
                x = prepared(program, m);
            }
            Object[] given = new Object[count];
            int rest = k;
            for (int i = 0; i < count; i++) {
                int number = numbers[rest % numbers.length];
                given[i] = m.getParameterTypes()[i] == boolean.class ? (Object) (number > 0) : (Object) number;
                rest /= numbers.length;
            }
            call(x, m, given);
        }
    }

    private static MarkGuards prepared(String program, Method m) {
        MarkGuards x = Due.of(program);
        x.go(3);
        for (int i = 0; i < 24 && m.getName().length() > 4; i++) {
            x.note(0, 1, true);
        }
        return x;
    }

    private static void call(MarkGuards x, Method m, Object[] given) throws IllegalAccessException {
        try {
            m.invoke(x, given);
        } catch (InvocationTargetException e) {
            Throwable t = e.getCause();
            boolean promised = m.getName().equals("block")
                && (t.getClass() == IndexOutOfBoundsException.class || t.getClass() == NoSuchElementException.class);
            Due.so(m + " of " + java.util.Arrays.toString(given) + " threw " + t, promised);
        }
    }
}
