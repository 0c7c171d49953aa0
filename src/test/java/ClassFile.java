import java.io.DataInputStream;
import java.io.IOException;
import java.util.ArrayList;
import java.util.List;

/** A class file, as far as rules of LANGUAGE.md can be seen from it. */
final class ClassFile {
    /** A method: what it is called, what its code does, whom it calls (as owner.name and descriptor). */
    static final class Method {
        String name;
        int caught;
        final List<Integer> codes = new ArrayList<>();
        final List<String> calls = new ArrayList<>();
    }

    static final int INVOKE_FIRST = 182, INVOKE_LAST = 185, INVOKE_DYNAMIC = 186;
    private static final int TABLE_SWITCH = 170, LOOKUP_SWITCH = 171, WIDE = 196, INCREMENT = 132;
    private static final int UTF8 = 1, CLASS = 7, FIELD = 9, METHOD = 10, INTERFACE_METHOD = 11, NAME_AND_TYPE = 12;

    final String name;
    final List<String> descriptors = new ArrayList<>();
    final List<Method> methods = new ArrayList<>();
    private final String[] texts;
    private final int[] firsts;
    private final int[] seconds;
    private final DataInputStream in;

    ClassFile(Class<?> of) throws IOException {
        in = new DataInputStream(of.getResourceAsStream(of.getName() + ".class"));
        in.readInt();
        in.readInt();
        int size = in.readUnsignedShort();
        texts = new String[size];
        firsts = new int[size];
        seconds = new int[size];
        readConstants(size);
        in.readUnsignedShort();
        name = texts[firsts[in.readUnsignedShort()]];
        in.readUnsignedShort();
        in.skipBytes(2 * in.readUnsignedShort());
        readMembers(false);
        readMembers(true);
        in.close();
    }

    private void readConstants(int size) throws IOException {
        for (int i = 1; i < size; i++) {
            int tag = in.readUnsignedByte();
            switch (tag) {
                case UTF8: texts[i] = in.readUTF(); break;
                case 3: case 4: in.readInt(); break;
                case 5: case 6: in.readLong(); i++; break;
                case 15: in.skipBytes(3); break;
                case FIELD: case METHOD: case INTERFACE_METHOD: case NAME_AND_TYPE: case 17: case 18:
                    firsts[i] = in.readUnsignedShort();
                    seconds[i] = in.readUnsignedShort();
                    break;
                default: firsts[i] = in.readUnsignedShort(); break;
            }
        }
    }

    private void readMembers(boolean areMethods) throws IOException {
        int members = in.readUnsignedShort();
        for (int i = 0; i < members; i++) {
            in.readUnsignedShort();
            Method method = new Method();
            String simple = texts[in.readUnsignedShort()];
            String descriptor = texts[in.readUnsignedShort()];
            descriptors.add(descriptor);
            method.name = name + "." + simple + descriptor;
            readAttributes(method);
            if (areMethods) {
                methods.add(method);
            }
        }
    }

    private void readAttributes(Method method) throws IOException {
        int attributes = in.readUnsignedShort();
        for (int i = 0; i < attributes; i++) {
            String attribute = texts[in.readUnsignedShort()];
            byte[] bytes = new byte[in.readInt()];
            in.readFully(bytes);
            if (attribute.equals("Code")) {
                // Ahead of the code stand the depth of its stack, its locals and its size.
                int size = at(bytes, 4) << 16 | at(bytes, 6);
                readCode(method, bytes, 8, 8 + size);
                method.caught = at(bytes, 8 + size);
            }
        }
    }

    private static int at(byte[] bytes, int i) {
        return (bytes[i] & 255) << 8 | bytes[i + 1] & 255;
    }

    private void readCode(Method method, byte[] bytes, int from, int to) {
        int i = from;
        while (i < to) {
            int code = bytes[i] & 255;
            method.codes.add(code);
            if (code >= INVOKE_FIRST && code <= INVOKE_LAST) {
                int called = at(bytes, i + 1);
                int as = seconds[called];
                method.calls.add(texts[firsts[firsts[called]]] + "." + texts[firsts[as]] + texts[seconds[as]]);
            }
            i += 1 + operands(bytes, i, from);
        }
    }

    /** How many bytes stand behind an operation. */
    private static int operands(byte[] bytes, int i, int from) {
        int code = bytes[i] & 255;
        if (code == TABLE_SWITCH || code == LOOKUP_SWITCH) {
            int padded = 3 - (i - from) % 4;
            int first = i + 1 + padded;
            int low = at(bytes, first + 4) << 16 | at(bytes, first + 6);
            int high = at(bytes, first + 8) << 16 | at(bytes, first + 10);
            return padded + (code == TABLE_SWITCH ? 12 + 4 * (high - low + 1) : 8 + 8 * low);
        } else if (code == WIDE) {
            return (bytes[i + 1] & 255) == INCREMENT ? 5 : 3;
        } else if (code == 16 || code == 18 || code >= 21 && code <= 25 || code >= 54 && code <= 58 || code == 169 || code == 188) {
            return 1;
        } else if (code == 17 || code == 19 || code == 20 || code == INCREMENT || code >= 153 && code <= 168
                || code >= 178 && code <= 184 || code == 187 || code == 189 || code == 192 || code == 193
                || code == 198 || code == 199) {
            return 2;
        } else if (code == 197) {
            return 3;
        }
        return code == 185 || code == 186 || code == 200 || code == 201 ? 4 : 0;
    }
}
