import java.io.DataInputStream;
import java.io.IOException;
import java.io.InputStream;
import java.util.ArrayList;
import java.util.List;

/** Just as much of a compiled class as tells which methods it has and what they call. */
final class ClassFile {
    private static final int CODE_HEAD = 8;
    private static final int TABLE_SWITCH = 0xaa;
    private static final int LOOKUP_SWITCH = 0xab;
    private static final int WIDE = 0xc4;
    private static final int WIDE_IINC_LENGTH = 6;
    private static final int IINC = 0x84;
    private static final int FIRST_INVOKE = 0xb6;
    private static final int LAST_INVOKE = 0xba;

    /** How long each operation is with its operands, from number 0 on; 0: one by one in 'lengthAt'. */
    private static final String LENGTHS = "1".repeat(16) + "23233" + "2".repeat(5) + "1".repeat(28) + "2".repeat(5)
            + "1".repeat(73) + "3" + "1".repeat(20) + "3".repeat(16) + "2" + "00" + "1".repeat(6) + "3".repeat(7) + "55"
            + "3" + "2" + "3" + "11" + "33" + "11" + "0" + "4" + "33" + "55";

    static final class Method {
        final String owner;
        final String name;
        final int flags;
        final List<String> calls = new ArrayList<>();
        final List<Integer> operations = new ArrayList<>();
        int catches = 0;

        Method(String owner, String name, int flags) {
            this.owner = owner;
            this.name = name;
            this.flags = flags;
        }

        String key() {
            return owner + "." + name;
        }
    }

    final List<Method> methods = new ArrayList<>();
    private final String owner;
    private Object[] pool;

    ClassFile(String owner, InputStream bytes) throws IOException {
        this.owner = owner;
        try (DataInputStream in = new DataInputStream(bytes)) {
            in.skipNBytes(8);
            readPool(in);
            in.skipNBytes(6);
            in.skipNBytes(2L * in.readUnsignedShort());
            readMembers(in, false);
            readMembers(in, true);
        }
    }

    private void readPool(DataInputStream in) throws IOException {
        int many = in.readUnsignedShort();
        pool = new Object[many];
        for (int k = 1; k < many; k++) {
            int tag = in.readUnsignedByte();
            switch (tag) {
                case 1:
                    pool[k] = in.readUTF();
                    break;
                case 5:
                case 6:
                    in.skipNBytes(8);
                    k++;
                    break;
                case 7:
                case 8:
                case 16:
                case 19:
                case 20:
                    pool[k] = new int[] {in.readUnsignedShort()};
                    break;
                case 9:
                case 10:
                case 11:
                case 12:
                case 17:
                case 18:
                    pool[k] = new int[] {in.readUnsignedShort(), in.readUnsignedShort()};
                    break;
                case 15:
                    in.skipNBytes(3);
                    break;
                default:
                    in.skipNBytes(4);
            }
        }
    }

    private void readMembers(DataInputStream in, boolean areMethods) throws IOException {
        int many = in.readUnsignedShort();
        for (int k = 0; k < many; k++) {
            int flags = in.readUnsignedShort();
            String name = (String) pool[in.readUnsignedShort()];
            String type = (String) pool[in.readUnsignedShort()];
            Method method = new Method(owner, name + type, flags);
            int attributes = in.readUnsignedShort();
            for (int i = 0; i < attributes; i++) {
                String attribute = (String) pool[in.readUnsignedShort()];
                byte[] held = in.readNBytes(in.readInt());
                if (attribute.equals("Code")) {
                    readCode(method, held);
                }
            }
            if (areMethods) {
                methods.add(method);
            }
        }
    }

    private void readCode(Method method, byte[] held) {
        int length = four(held, 4);
        for (int at = 0; at < length; at += lengthAt(held, at)) {
            int operation = held[CODE_HEAD + at] & 255;
            method.operations.add(operation);
            if (operation >= FIRST_INVOKE && operation <= LAST_INVOKE) {
                method.calls.add(operation == LAST_INVOKE ? "invokedynamic" : called(two(held, CODE_HEAD + at + 1)));
            }
        }
        method.catches = two(held, CODE_HEAD + length);
    }

    private String called(int number) {
        int[] reference = (int[]) pool[number];
        int[] named = (int[]) pool[reference[1]];
        return pool[((int[]) pool[reference[0]])[0]] + "." + pool[named[0]] + pool[named[1]];
    }

    private static int lengthAt(byte[] held, int at) {
        int operation = held[CODE_HEAD + at] & 255;
        int filled = (at + 4) / 4 * 4;
        if (operation == TABLE_SWITCH) {
            int cases = four(held, CODE_HEAD + filled + 8) - four(held, CODE_HEAD + filled + 4) + 1;
            return filled + 12 + 4 * cases - at;
        }
        if (operation == LOOKUP_SWITCH) {
            return filled + 8 + 8 * four(held, CODE_HEAD + filled + 4) - at;
        }
        if (operation == WIDE) {
            return (held[CODE_HEAD + at + 1] & 255) == IINC ? WIDE_IINC_LENGTH : 4;
        }
        return LENGTHS.charAt(operation) - '0';
    }

    private static int two(byte[] held, int at) {
        return (held[at] & 255) << 8 | held[at + 1] & 255;
    }

    private static int four(byte[] held, int at) {
        return two(held, at) << 16 | two(held, at + 2);
    }
}
