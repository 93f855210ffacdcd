import java.io.ByteArrayInputStream;
import java.io.DataInputStream;
import java.io.IOException;
import java.io.InputStream;
import java.util.ArrayList;
import java.util.List;

/** What the compiler made of a class: its methods, and whom each calls, makes, takes or throws. */
final class ClassFile {
    private static final int TABLE_SWITCH = 170;
    private static final int LOOKUP_SWITCH = 171;
    private static final int WIDE = 196;
    private static final int IINC = 132;
    /** How many bytes follow each code, from 0 on in sixteens; those of the two switches and of wide are told by their own bytes. */
    private static final String OPERANDS = "0000000000000000" + "1212211111000000" + "0000000000000000" + "0000001111100000"
        + "0000000000000000" + "0000000000000000" + "0000000000000000" + "0000000000000000" + "0000200000000000" + "0000000002222222"
        + "2222222221000000" + "0022222224421200" + "2200032244";

    /** A method's code: each step's opcode, and the class, name and kind it names (empty if none). */
    record Step(int opcode, String owner, String name, String kind) { }

    record Method(String name, String kind, boolean isPrivateStatic, int handlers, List<Step> steps) { }

    record Field(String name, String kind, boolean isStatic, boolean isFinal) { }

    final String name;
    final List<Method> methods = new ArrayList<>();
    final List<Field> fields = new ArrayList<>();
    private final int[] tags;
    private final Object[] constants;

    ClassFile(Class<?> read) throws IOException {
        byte[] bytes;
        try (InputStream in = read.getResourceAsStream("/" + read.getName() + ".class")) {
            bytes = in.readAllBytes();
        }
        DataInputStream in = new DataInputStream(new ByteArrayInputStream(bytes));
        in.skipBytes(8);
        int size = in.readUnsignedShort();
        tags = new int[size];
        constants = new Object[size];
        for (int i = 1; i < size; i++) {
            readConstant(in, i);
            i += tags[i] == 5 || tags[i] == 6 ? 1 : 0;
        }
        in.skipBytes(2);
        name = classAt(in.readUnsignedShort());
        in.skipBytes(2);
        in.skipBytes(2 * in.readUnsignedShort());
        readMembers(in, false);
        readMembers(in, true);
    }

    private void readConstant(DataInputStream in, int i) throws IOException {
        tags[i] = in.readUnsignedByte();
        switch (tags[i]) {
            case 1 -> constants[i] = in.readUTF();
            case 3, 4 -> in.skipBytes(4);
            case 5, 6 -> in.skipBytes(8);
            case 7, 8, 16, 19, 20 -> constants[i] = new int[] {in.readUnsignedShort()};
            case 9, 10, 11, 12, 17, 18 -> constants[i] = new int[] {in.readUnsignedShort(), in.readUnsignedShort()};
            case 15 -> in.skipBytes(3);
            default -> throw new IOException("no such constant: " + tags[i]);
        }
    }

    private int part(int i, int k) {
        return ((int[]) constants[i])[k];
    }

    private String classAt(int i) {
        return (String) constants[part(i, 0)];
    }

    private void readMembers(DataInputStream in, boolean areMethods) throws IOException {
        int size = in.readUnsignedShort();
        for (int m = 0; m < size; m++) {
            int flags = in.readUnsignedShort();
            String member = (String) constants[in.readUnsignedShort()];
            String kind = (String) constants[in.readUnsignedShort()];
            int attributes = in.readUnsignedShort();
            if (!areMethods) {
                fields.add(new Field(member, kind, (flags & 8) != 0, (flags & 16) != 0));
            }
            for (int a = 0; a < attributes; a++) {
                boolean isCode = constants[in.readUnsignedShort()].equals("Code");
                byte[] attribute = new byte[in.readInt()];
                in.readFully(attribute);
                if (isCode) {
                    readCode(attribute, member, kind, (flags & 10) == 10);
                }
            }
        }
    }

    private void readCode(byte[] attribute, String member, String kind, boolean isPrivateStatic) throws IOException {
        DataInputStream in = new DataInputStream(new ByteArrayInputStream(attribute));
        in.skipBytes(4);
        byte[] code = new byte[in.readInt()];
        in.readFully(code);
        List<Step> steps = new ArrayList<>();
        int place = 0;
        while (place < code.length) {
            int opcode = code[place] & 255;
            boolean namesOne = opcode >= 178 && opcode <= 189 && opcode != 188 || opcode == 192 || opcode == 193 || opcode == 197;
            steps.add(namesOne ? stepAt(opcode, short2(code, place + 1)) : new Step(opcode, "", "", ""));
            place += 1 + operandsAt(code, place, opcode);
        }
        methods.add(new Method(member, kind, isPrivateStatic, in.readUnsignedShort(), steps));
    }

    private Step stepAt(int opcode, int i) {
        if (tags[i] == 7) {
            return new Step(opcode, classAt(i), "", "");
        }
        if (tags[i] == 18) {
            return new Step(opcode, "", "", "");
        }
        int named = part(i, 1);
        return new Step(opcode, classAt(part(i, 0)), (String) constants[part(named, 0)], (String) constants[part(named, 1)]);
    }

    private static int operandsAt(byte[] code, int place, int opcode) {
        if (opcode == WIDE) {
            return (code[place + 1] & 255) == IINC ? 5 : 3;
        }
        if (opcode != TABLE_SWITCH && opcode != LOOKUP_SWITCH) {
            return OPERANDS.charAt(opcode) - '0';
        }
        int table = (place / 4 + 1) * 4;
        int cases = opcode == TABLE_SWITCH ? int4(code, table + 8) - int4(code, table + 4) + 1 : 2 * int4(code, table + 4);
        return table - place - 1 + (opcode == TABLE_SWITCH ? 12 : 8) + 4 * cases;
    }

    private static int short2(byte[] code, int place) {
        return (code[place] & 255) << 8 | code[place + 1] & 255;
    }

    private static int int4(byte[] code, int place) {
        return short2(code, place) << 16 | short2(code, place + 2);
    }
}
