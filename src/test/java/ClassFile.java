import java.io.ByteArrayInputStream;
import java.io.DataInputStream;
import java.io.IOException;
import java.io.InputStream;
import java.util.ArrayList;
import java.util.List;

/** What a compiled class holds: the Java library has no reader of its own in Java 17. */
final class ClassFile {
    static final int STATIC = 0x0008;
    static final int PRIVATE = 0x0002;
    static final int FINAL = 0x0010;
    static final int PUTSTATIC = 179;
    static final int INVOKEVIRTUAL = 182;
    static final int INVOKEINTERFACE = 185;
    static final int INVOKEDYNAMIC = 186;
    static final int NEW = 187;
    static final int NEWARRAY = 188;
    static final int ANEWARRAY = 189;
    static final int ATHROW = 191;
    static final int CHECKCAST = 192;
    static final int MONITORENTER = 194;
    static final int MULTIANEWARRAY = 197;

    /** A field, or a method without what it does. */
    static class Member {
        int flags;
        String name;
        String type;
    }

    static final class Step {
        int code;
        /** Of an opcode that names something: a class, or owner.name:type. */
        String what = "";
    }

    static final class Body extends Member {
        final List<Step> steps = new ArrayList<>();
        int caught;
        int firstLine = Integer.MAX_VALUE;
        int lastLine;
    }

    final List<Member> fields = new ArrayList<>();
    final List<Body> methods = new ArrayList<>();
    String name;

    private final DataInputStream in;
    private int[] tags;
    private int[] firsts;
    private int[] seconds;
    private String[] texts;

    private ClassFile(DataInputStream in) {
        this.in = in;
    }

    static ClassFile of(Class<?> type) throws IOException {
        try (InputStream bytes = type.getResourceAsStream("/" + type.getName() + ".class")) {
            ClassFile file = new ClassFile(new DataInputStream(new ByteArrayInputStream(bytes.readAllBytes())));
            file.read();
            return file;
        }
    }

    private void read() throws IOException {
        in.skipBytes(8);
        readConstants();
        in.skipBytes(2);
        name = className(in.readUnsignedShort());
        in.skipBytes(2);
        in.skipBytes(2 * in.readUnsignedShort());
        for (int left = in.readUnsignedShort(); left > 0; left--) {
            Member field = new Member();
            readMember(field);
            for (int attributes = in.readUnsignedShort(); attributes > 0; attributes--) {
                in.skipBytes(2);
                in.skipBytes(in.readInt());
            }
            fields.add(field);
        }
        for (int left = in.readUnsignedShort(); left > 0; left--) {
            methods.add(readMethod());
        }
    }

    private void readConstants() throws IOException {
        int size = in.readUnsignedShort();
        tags = new int[size];
        firsts = new int[size];
        seconds = new int[size];
        texts = new String[size];
        for (int i = 1; i < size; i++) {
            tags[i] = in.readUnsignedByte();
            switch (tags[i]) {
                case 1 -> texts[i] = in.readUTF();
                case 3, 4 -> in.skipBytes(4);
                case 5, 6 -> {
                    // A long or double takes two numbers.
                    in.skipBytes(8);
                    i++;
                }
                case 7, 8, 16, 19, 20 -> firsts[i] = in.readUnsignedShort();
                case 15 -> in.skipBytes(3);
                default -> {
                    firsts[i] = in.readUnsignedShort();
                    seconds[i] = in.readUnsignedShort();
                }
            }
        }
    }

    private String className(int i) {
        return i == 0 ? "" : texts[firsts[i]];
    }

    private String constant(int i) {
        switch (tags[i]) {
            case 7:
                return className(i);
            case 9:
            case 10:
            case 11:
                return className(firsts[i]) + "." + texts[firsts[seconds[i]]] + ":" + texts[seconds[seconds[i]]];
            default:
                return "";
        }
    }

    private void readMember(Member member) throws IOException {
        member.flags = in.readUnsignedShort();
        member.name = texts[in.readUnsignedShort()];
        member.type = texts[in.readUnsignedShort()];
    }

    private Body readMethod() throws IOException {
        Body body = new Body();
        readMember(body);
        for (int attributes = in.readUnsignedShort(); attributes > 0; attributes--) {
            String attribute = texts[in.readUnsignedShort()];
            int length = in.readInt();
            if (attribute.equals("Code")) {
                readCode(body);
            } else {
                in.skipBytes(length);
            }
        }
        return body;
    }

    private void readCode(Body body) throws IOException {
        in.skipBytes(4);
        byte[] code = new byte[in.readInt()];
        in.readFully(code);
        for (int at = 0; at < code.length;) {
            at += readStep(body, code, at);
        }
        body.caught = in.readUnsignedShort();
        in.skipBytes(8 * body.caught);
        for (int attributes = in.readUnsignedShort(); attributes > 0; attributes--) {
            String attribute = texts[in.readUnsignedShort()];
            int length = in.readInt();
            if (attribute.equals("LineNumberTable")) {
                readLines(body);
            } else {
                in.skipBytes(length);
            }
        }
    }

    private void readLines(Body body) throws IOException {
        for (int left = in.readUnsignedShort(); left > 0; left--) {
            in.skipBytes(2);
            int line = in.readUnsignedShort();
            body.firstLine = Math.min(body.firstLine, line);
            body.lastLine = Math.max(body.lastLine, line);
        }
    }

    /** How many bytes the step takes. */
    private int readStep(Body body, byte[] code, int at) {
        Step step = new Step();
        step.code = code[at] & 255;
        body.steps.add(step);
        boolean names = step.code >= 178 && step.code <= 187 || step.code == ANEWARRAY
            || step.code == CHECKCAST || step.code == 193 || step.code == MULTIANEWARRAY;
        if (names) {
            step.what = constant((code[at + 1] & 255) << 8 | code[at + 2] & 255);
        }
        return lengthOf(step.code, code, at);
    }

    private static int lengthOf(int code, byte[] bytes, int at) {
        switch (code) {
            case 16: case 18: case 21: case 22: case 23: case 24: case 25:
            case 54: case 55: case 56: case 57: case 58: case 169: case 188:
                return 2;
            case 17: case 19: case 20: case 132: case 192: case 193: case 198: case 199:
            case 187: case 189:
                return 3;
            case 197:
                return 4;
            case 185: case 186: case 200: case 201:
                return 5;
            case 170: {
                int table = (at + 4) / 4 * 4;
                return table + 12 + 4 * (number(bytes, table + 8) - number(bytes, table + 4) + 1) - at;
            }
            case 171: {
                int table = (at + 4) / 4 * 4;
                return table + 8 + 8 * number(bytes, table + 4) - at;
            }
            case 196:
                return (bytes[at + 1] & 255) == 132 ? 6 : 4;
            default:
                boolean jumps = code >= 153 && code <= 168;
                boolean names = code >= 178 && code <= 184;
                return jumps || names ? 3 : 1;
        }
    }

    private static int number(byte[] bytes, int at) {
        return (bytes[at] & 255) << 24 | (bytes[at + 1] & 255) << 16 | (bytes[at + 2] & 255) << 8 | bytes[at + 3] & 255;
    }
}
