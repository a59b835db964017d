import java.io.IOException;
import java.lang.reflect.Array;
import java.lang.reflect.Field;
import java.lang.reflect.Modifier;
import java.util.ArrayDeque;
import java.util.ArrayList;
import java.util.Arrays;
import java.util.Collections;
import java.util.Deque;
import java.util.HashMap;
import java.util.IdentityHashMap;
import java.util.List;
import java.util.Map;
import java.util.Set;
import java.util.TreeMap;
import java.util.TreeSet;

/** What of LANGUAGE.md the compiled class shows: the library, exceptions, how deep calls go, how much is made. */
public final class LanguageTest {
    /** Rule 4, as far as the class needs it; what the compiler puts in for enums and constructors is behind. */
    private static final List<String> LIBRARY = Arrays.asList(
        "java/lang/Math.abs(J)J", "java/lang/Math.max(II)I", "java/lang/Math.max(JJ)J", "java/lang/Math.min(II)I",
        "java/lang/Math.min(JJ)J", "java/lang/Math.floorMod(JI)I", "java/lang/Integer.bitCount(I)I",
        "java/lang/String.length()I", "java/lang/String.charAt(I)C",
        "java/lang/System.arraycopy(Ljava/lang/Object;ILjava/lang/Object;II)V",
        "java/lang/Object.<init>()V", "java/lang/Enum.<init>(Ljava/lang/String;I)V",
        "java/lang/Enum.valueOf(Ljava/lang/Class;Ljava/lang/String;)Ljava/lang/Enum;", "[LMarkGuards$Kind;.clone()Ljava/lang/Object;",
        "java/lang/IndexOutOfBoundsException.<init>(Ljava/lang/String;)V",
        "java/util/NoSuchElementException.<init>(Ljava/lang/String;)V");
    private static final int DEEPEST = 8;
    private static final int MOST_LINES = 60;
    private static final int MOST_OBJECTS = 600;
    private static final int MOST_PARTS = 7300;

    private static final Map<String, ClassFile.Body> METHODS = new TreeMap<>();
    private static final Map<String, Integer> DEPTHS = new HashMap<>();

    public static void main(String[] args) throws IOException, IllegalAccessException {
        readClasses();
        Due.so("methods are found", METHODS.size() > 100);
        for (ClassFile.Body body : METHODS.values()) {
            callsOf(body);
            makesOf(body);
            exceptionsOf(body);
            Due.so("longer than sixty lines: " + body.name, body.lastLine - body.firstLine < MOST_LINES);
            int depth = depth(body.name, new ArrayDeque<>());
            Due.so("calls go " + depth + " deep from " + body.name, depth <= DEEPEST);
        }
        room();
        Due.finish();
    }

    /** MarkGuards, its classes inside, and the one that the compiler makes for a switch on an enum. */
    private static void readClasses() throws IOException {
        List<String> names = new ArrayList<>(List.of("MarkGuards", "MarkGuards$1"));
        for (Class<?> inside : MarkGuards.class.getDeclaredClasses()) {
            names.add(inside.getName());
        }
        for (String name : names) {
            METHODS.putAll(ClassFile.of(name).methods);
        }
    }

    private static boolean madeByCompiler(ClassFile.Body body) {
        return body.name.startsWith("MarkGuards$1.") || body.name.contains("Kind.values(")
            || body.name.contains("Kind.valueOf(") || body.name.contains("Kind.$values(") || body.name.contains("ordinal");
    }

    private static void callsOf(ClassFile.Body body) {
        for (String call : body.calls) {
            boolean ofCompiler = madeByCompiler(body) || call.equals("MarkGuards$Kind.ordinal()I");
            Due.so(body.name + " calls " + call, METHODS.containsKey(call) || LIBRARY.contains(call) || ofCompiler);
        }
    }

    /** Rows are made with an object alone, so that all calls of a run need no room. */
    private static void makesOf(ClassFile.Body body) {
        boolean making = body.name.contains(".<init>") || body.name.contains(".<clinit>") || madeByCompiler(body);
        for (String made : body.makes) {
            boolean thrown = body.name.startsWith("MarkGuards.block(") && made.endsWith("Exception");
            Due.so(body.name + " makes " + made, making || thrown);
        }
    }

    /** Rule 6: block alone throws, twice, and nothing is caught. */
    private static void exceptionsOf(ClassFile.Body body) {
        boolean block = body.name.startsWith("MarkGuards.block(");
        Due.same("throws in " + body.name, body.throwing, block ? 2 : 0);
        Due.so("catches: " + body.name, body.catching == 0 || body.name.startsWith("MarkGuards$1."));
        Due.so("casts: " + body.name, body.casts == 0 || madeByCompiler(body));
    }

    /** Objects and arrays of one MarkGuards, fields and elements in them: a run has room for a thousand of these. */
    private static void room() throws IllegalAccessException {
        Set<Object> seen = Collections.newSetFromMap(new IdentityHashMap<>());
        Deque<Object> waiting = new ArrayDeque<>();
        waiting.push(new MarkGuards());
        int parts = 0;
        while (!waiting.isEmpty()) {
            Object some = waiting.pop();
            if (seen.add(some)) {
                parts += some.getClass().isArray() ? elements(some, waiting) : fields(some, waiting);
            }
        }
        Due.so("objects and arrays: " + seen.size(), seen.size() <= MOST_OBJECTS);
        Due.so("fields and elements: " + parts, parts <= MOST_PARTS);
    }

    private static int elements(Object array, Deque<Object> waiting) {
        int length = Array.getLength(array);
        for (int i = 0; i < length; i++) {
            lookLater(Array.get(array, i), waiting);
        }
        return length;
    }

    private static int fields(Object object, Deque<Object> waiting) throws IllegalAccessException {
        int count = 0;
        for (Field field : object.getClass().getDeclaredFields()) {
            if (!Modifier.isStatic(field.getModifiers())) {
                count++;
                field.setAccessible(true);
                lookLater(field.get(object), waiting);
            }
        }
        return count;
    }

    private static void lookLater(Object part, Deque<Object> waiting) {
        boolean own = part != null && (part.getClass().isArray() || part.getClass().getName().startsWith("MarkGuards"));
        if (own && !(part instanceof Enum)) {
            waiting.push(part);
        }
    }

    /** How many calls stand open at once from a method on, it with; what calls itself is told. */
    private static int depth(String name, Deque<String> open) {
        Integer known = DEPTHS.get(name);
        if (known != null) {
            return known;
        }
        if (open.contains(name)) {
            Due.so("calls itself: " + name, false);
            return 1;
        }
        open.push(name);
        int deepest = 0;
        for (String call : new TreeSet<>(METHODS.get(name).calls)) {
            if (METHODS.containsKey(call)) {
                deepest = Math.max(deepest, depth(call, open));
            }
        }
        open.pop();
        DEPTHS.put(name, deepest + 1);
        return deepest + 1;
    }
}
