import java.io.ByteArrayInputStream;
import java.io.DataInputStream;
import java.io.IOException;
import java.io.InputStream;
import java.util.ArrayList;
import java.util.HashMap;
import java.util.HashSet;
import java.util.List;
import java.util.Map;
import java.util.Set;
import java.util.TreeMap;

/** What the compiled class does: what each of its methods calls, makes and catches. */
final class Compiled {
    private static final int TABLE_SWITCH = 0xaa;
    private static final int LOOKUP_SWITCH = 0xab;
    private static final int WIDE = 0xc4;
    private static final int IINC = 0x84;

    /** A method's code: the instructions (their numbers), and what they call, make and look up. */
    static final class Code {
        final Set<Integer> instructions = new HashSet<>();
        final List<String> calls = new ArrayList<>();
        final List<String> made = new ArrayList<>();
        final List<String> statics = new ArrayList<>();
        int caught;
    }

    /** By the class's name, the method's name and what it takes and answers. */
    final Map<String, Code> methods = new TreeMap<>();

    /** A class, and the classes inside it. */
    static Compiled of(Class<?> outer) throws IOException {
        Compiled all = new Compiled();
        all.read(outer);
        for (Class<?> inner : outer.getDeclaredClasses()) {
            all.read(inner);
        }
        return all;
    }

    /** How many calls stand open at once from this method on, those that call one another counting as one. */
    int depth(String method) {
        return depth(method, new HashMap<>());
    }

    private int depth(String method, Map<String, Integer> known) {
        Integer there = known.get(method);
        if (there != null) {
            return there;
        }
        Set<String> ring = ring(method);
        int deepest = 0;
        for (String one : ring) {
            for (String next : methods.get(one).calls) {
                if (methods.containsKey(next) && !ring.contains(next)) {
                    deepest = Math.max(deepest, depth(next, known));
                }
            }
        }
        known.put(method, deepest + 1);
        return deepest + 1;
    }

    /** The method, and those that it reaches and that reach it. */
    Set<String> ring(String method) {
        Set<String> ring = new HashSet<>(Set.of(method));
        for (String other : reached(method)) {
            if (reached(other).contains(method)) {
                ring.add(other);
            }
        }
        return ring;
    }

    private Set<String> reached(String from) {
        Set<String> reached = new HashSet<>();
        List<String> next = new ArrayList<>(List.of(from));
        while (!next.isEmpty()) {
            for (String call : methods.get(next.remove(next.size() - 1)).calls) {
                if (methods.containsKey(call) && reached.add(call)) {
                    next.add(call);
                }
            }
        }
        return reached;
    }

    // ---- the file of a class

    private String[] texts;
    private int[][] pairs;

    private void read(Class<?> type) throws IOException {
        try (InputStream file = type.getResourceAsStream("/" + type.getName() + ".class");
                DataInputStream in = new DataInputStream(file)) {
            in.skipBytes(8);
            readConstants(in);
            in.skipBytes(6);
            in.skipBytes(2 * in.readUnsignedShort());
            readMembers(in, null);
            readMembers(in, type.getName());
        }
    }

    private void readConstants(DataInputStream in) throws IOException {
        int many = in.readUnsignedShort();
        texts = new String[many];
        pairs = new int[many][2];
        for (int i = 1; i < many; i++) {
            int tag = in.readUnsignedByte();
            switch (tag) {
                case 1 -> texts[i] = in.readUTF();
                case 3, 4 -> in.skipBytes(4);
                case 5, 6 -> {
                    in.skipBytes(8);
                    i++;
                }
                case 9, 10, 11, 12, 17, 18 -> {
                    pairs[i][0] = in.readUnsignedShort();
                    pairs[i][1] = in.readUnsignedShort();
                }
                case 15 -> in.skipBytes(3);
                default -> pairs[i][0] = in.readUnsignedShort();
            }
        }
    }

    private String nameOf(int type) {
        return texts[pairs[type][0]];
    }

    private String memberOf(int member) {
        int[] named = pairs[pairs[member][1]];
        return nameOf(pairs[member][0]) + "." + texts[named[0]] + texts[named[1]];
    }

    private void readMembers(DataInputStream in, String methodsOf) throws IOException {
        int many = in.readUnsignedShort();
        for (int i = 0; i < many; i++) {
            in.skipBytes(2);
            String name = texts[in.readUnsignedShort()] + texts[in.readUnsignedShort()];
            Code code = new Code();
            int attributes = in.readUnsignedShort();
            for (int k = 0; k < attributes; k++) {
                boolean isCode = texts[in.readUnsignedShort()].equals("Code");
                byte[] bytes = in.readNBytes(in.readInt());
                if (isCode) {
                    readCode(new DataInputStream(new ByteArrayInputStream(bytes)), code);
                }
            }
            if (methodsOf != null) {
                methods.put(methodsOf + "." + name, code);
            }
        }
    }

    private void readCode(DataInputStream in, Code code) throws IOException {
        in.skipBytes(4);
        byte[] bytes = in.readNBytes(in.readInt());
        code.caught = in.readUnsignedShort();
        for (int at = 0; at < bytes.length; at += length(bytes, at)) {
            int instruction = bytes[at] & 255;
            code.instructions.add(instruction);
            switch (instruction) {
                case 0xb2 -> code.statics.add(memberOf(shortAt(bytes, at + 1)));
                case 0xb6, 0xb7, 0xb8, 0xb9 -> code.calls.add(memberOf(shortAt(bytes, at + 1)));
                case 0xbb, 0xbd, 0xc5 -> code.made.add(nameOf(shortAt(bytes, at + 1)));
                case 0xbc -> code.made.add("numbers");
                default -> {
                }
            }
        }
    }

    private static int shortAt(byte[] bytes, int at) {
        return (bytes[at] & 255) << 8 | bytes[at + 1] & 255;
    }

    private static int intAt(byte[] bytes, int at) {
        return shortAt(bytes, at) << 16 | shortAt(bytes, at + 2);
    }

    private static int length(byte[] bytes, int at) {
        int instruction = bytes[at] & 255;
        int behind = (at | 3) + 1;
        if (instruction == TABLE_SWITCH) {
            return behind - at + 12 + 4 * (intAt(bytes, behind + 8) - intAt(bytes, behind + 4) + 1);
        }
        if (instruction == LOOKUP_SWITCH) {
            return behind - at + 8 + 8 * intAt(bytes, behind + 4);
        }
        if (instruction == WIDE) {
            return (bytes[at + 1] & 255) == IINC ? 6 : 4;
        }
        return 1 + operands(instruction);
    }

    private static int operands(int instruction) {
        return switch (instruction) {
            case 0x10, 0x12, 0x15, 0x16, 0x17, 0x18, 0x19, 0x36, 0x37, 0x38, 0x39, 0x3a, 0xa9, 0xbc -> 1;
            case 0x11, 0x13, 0x14, IINC, 0xbb, 0xbd, 0xc0, 0xc1, 0xc6, 0xc7 -> 2;
            case 0xc5 -> 3;
            case 0xb9, 0xba, 0xc8, 0xc9 -> 4;
            default -> instruction >= 0x99 && instruction <= 0xa8 || instruction >= 0xb2 && instruction <= 0xb8 ? 2 : 0;
        };
    }
}
