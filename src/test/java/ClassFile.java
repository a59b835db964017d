import java.io.ByteArrayInputStream;
import java.io.DataInputStream;
import java.io.IOException;
import java.io.InputStream;
import java.util.ArrayList;
import java.util.LinkedHashMap;
import java.util.List;
import java.util.Map;

/** What a compiled class shows: its methods, and of each what it calls, makes, catches, and how many lines it has. */
final class ClassFile {
    /** Lengths of the instructions 0 to 201; 0 of those that tell their length themselves. */
    private static final String LENGTHS = "1".repeat(16) + "23" + "233" + "2".repeat(5) + "1".repeat(28) + "2".repeat(5)
        + "1".repeat(73) + "3" + "1".repeat(20) + "3".repeat(16) + "200" + "1".repeat(6) + "3".repeat(7) + "55" + "3" + "23"
        + "11" + "33" + "11" + "0" + "4" + "33" + "55";
    private static final int TABLESWITCH = 170;
    private static final int LOOKUPSWITCH = 171;
    private static final int WIDE = 196;
    private static final int IINC = 132;

    /** A method and what stands in it. */
    static final class Body {
        final String name;
        final List<String> calls = new ArrayList<>();
        final List<String> makes = new ArrayList<>();
        int casts;
        int throwing;
        int catching;
        int firstLine = Integer.MAX_VALUE;
        int lastLine;

        Body(String name) {
            this.name = name;
        }
    }

    final String name;
    final Map<String, Body> methods = new LinkedHashMap<>();
    private final Object[] pool;

    /** The class of that name as the class path has it. */
    static ClassFile of(String name) throws IOException {
        try (InputStream in = ClassFile.class.getClassLoader().getResourceAsStream(name + ".class")) {
            if (in == null) {
                throw new IOException("no class " + name);
            }
            return new ClassFile(new DataInputStream(new ByteArrayInputStream(in.readAllBytes())));
        }
    }

    private ClassFile(DataInputStream in) throws IOException {
        in.skipBytes(8);
        pool = readPool(in);
        in.readUnsignedShort();
        name = text(in.readUnsignedShort());
        in.readUnsignedShort();
        in.skipBytes(2 * in.readUnsignedShort());
        for (int fields = in.readUnsignedShort(); fields > 0; fields--) {
            in.skipBytes(6);
            readAttributes(in, null);
        }
        for (int count = in.readUnsignedShort(); count > 0; count--) {
            in.readUnsignedShort();
            Body body = new Body(name + "." + text(in.readUnsignedShort()) + text(in.readUnsignedShort()));
            readAttributes(in, body);
            methods.put(body.name, body);
        }
    }

    private static Object[] readPool(DataInputStream in) throws IOException {
        Object[] found = new Object[in.readUnsignedShort()];
        for (int i = 1; i < found.length; i++) {
            int tag = in.readUnsignedByte();
            switch (tag) {
                case 1 -> found[i] = in.readUTF();
                case 7, 8, 16, 19, 20 -> found[i] = new int[] {in.readUnsignedShort()};
                case 3, 4 -> in.skipBytes(4);
                case 5, 6 -> {
                    in.skipBytes(8);
                    i++;
                }
                case 15 -> in.skipBytes(3);
                default -> found[i] = new int[] {in.readUnsignedShort(), in.readUnsignedShort()};
            }
        }
        return found;
    }

    /** A constant told: a class by its name, a method as class.name(types). */
    private String text(int index) {
        if (pool[index] instanceof String s) {
            return s;
        }
        int[] parts = (int[]) pool[index];
        if (parts.length == 1) {
            return text(parts[0]);
        }
        boolean pair = pool[parts[0]] instanceof String;
        return text(parts[0]) + (pair ? "" : ".") + text(parts[1]);
    }

    private void readAttributes(DataInputStream in, Body body) throws IOException {
        for (int count = in.readUnsignedShort(); count > 0; count--) {
            String kind = text(in.readUnsignedShort());
            byte[] bytes = new byte[in.readInt()];
            in.readFully(bytes);
            DataInputStream inside = new DataInputStream(new ByteArrayInputStream(bytes));
            if (body != null && kind.equals("Code")) {
                readCode(inside, body);
            } else if (body != null && kind.equals("LineNumberTable")) {
                readLines(inside, body);
            }
        }
    }

    private void readCode(DataInputStream in, Body body) throws IOException {
        in.skipBytes(4);
        byte[] code = new byte[in.readInt()];
        in.readFully(code);
        for (int at = 0; at < code.length; at += length(code, at)) {
            readInstruction(code, at, body);
        }
        body.catching = in.readUnsignedShort();
        in.skipBytes(8 * body.catching);
        readAttributes(in, body);
    }

    private void readInstruction(byte[] code, int at, Body body) {
        int instruction = code[at] & 255;
        if (instruction >= 182 && instruction <= 186) {
            body.calls.add(text(number(code, at + 1, 2)));
        } else if (instruction == 187 || instruction == 189 || instruction == 197) {
            body.makes.add(text(number(code, at + 1, 2)));
        } else if (instruction == 188) {
            body.makes.add("numbers");
        } else if (instruction == 191) {
            body.throwing++;
        } else if (instruction == 192) {
            body.casts++;
        }
    }

    private static int number(byte[] code, int at, int bytes) {
        int value = 0;
        for (int i = 0; i < bytes; i++) {
            value = value << 8 | code[at + i] & 255;
        }
        return value;
    }

    private static int length(byte[] code, int at) {
        int instruction = code[at] & 255;
        int aligned = at + 4 - at % 4;
        if (instruction == TABLESWITCH) {
            return aligned + 12 + 4 * (number(code, aligned + 8, 4) - number(code, aligned + 4, 4) + 1) - at;
        }
        if (instruction == LOOKUPSWITCH) {
            return aligned + 8 + 8 * number(code, aligned + 4, 4) - at;
        }
        if (instruction == WIDE) {
            return (code[at + 1] & 255) == IINC ? 6 : 4;
        }
        return LENGTHS.charAt(instruction) - '0';
    }

    private static void readLines(DataInputStream in, Body body) throws IOException {
        for (int count = in.readUnsignedShort(); count > 0; count--) {
            in.readUnsignedShort();
            int line = in.readUnsignedShort();
            body.firstLine = Math.min(body.firstLine, line);
            body.lastLine = Math.max(body.lastLine, line);
        }
    }
}
