import java.io.ByteArrayInputStream;
import java.io.DataInputStream;
import java.io.IOException;
import java.io.InputStream;
import java.util.ArrayList;
import java.util.HashMap;
import java.util.List;
import java.util.Map;
import java.util.TreeMap;
import java.util.TreeSet;

/**
 * Rules of LANGUAGE.md that the compiled classes show: how deep calls go (8, 11), and that objects and
 * rows are made in constructors alone (12), so that no run of calls fills the room.
 */
final class BytecodeTest {
    private static final int NEW = 187;
    private static final int NEWARRAY = 188;
    private static final int ANEWARRAY = 189;
    private static final int MULTIANEWARRAY = 197;

    private final TreeMap<String, TreeSet<String>> calls = new TreeMap<>();
    private final Map<String, Integer> depths = new HashMap<>();

    public static void main(String[] args) throws IOException {
        BytecodeTest test = new BytecodeTest();
        test.read(LessonMaker.class);
        for (Class<?> inside : LessonMaker.class.getDeclaredClasses()) {
            test.read(inside);
        }
        test.lookAtDepths();
        Check.end();
    }

    private void lookAtDepths() {
        due("the methods are found: " + calls.size(), calls.size() > 100);
        for (String method : calls.keySet()) {
            int depth = depthOf(method);
            due(method + " goes " + depth + " deep", depth <= 8);
        }
        TreeSet<String> recursions = new TreeSet<>();
        for (String method : calls.keySet()) {
            if (reached(method).contains(method)) {
                recursions.add(method);
                String takes = method.substring(method.indexOf('('), method.indexOf(')'));
                due(method + " takes a depth", method.contains("Reader.read") && takes.contains("I"));
            }
        }
        due("the recursions are the BLOCKS' and the SUMS': " + recursions, recursions.size() == 10);
    }

    private TreeSet<String> reached(String method) {
        TreeSet<String> reached = new TreeSet<>();
        List<String> open = new ArrayList<>(List.of(method));
        while (!open.isEmpty()) {
            for (String called : calls.getOrDefault(open.remove(open.size() - 1), new TreeSet<>())) {
                if (reached.add(called)) {
                    open.add(called);
                }
            }
        }
        return reached;
    }

    /** How many methods stand open at most; those that call one another in a ring count as one. */
    private int depthOf(String method) {
        Integer known = depths.get(method);
        if (known != null) {
            return known;
        }
        int most = 0;
        TreeSet<String> ring = new TreeSet<>(List.of(method));
        for (String other : reached(method)) {
            if (reached(other).contains(method)) {
                ring.add(other);
            }
        }
        for (String member : ring) {
            for (String called : calls.getOrDefault(member, new TreeSet<>())) {
                most = Math.max(most, ring.contains(called) ? 0 : depthOf(called));
            }
        }
        depths.put(method, most + 1);
        return most + 1;
    }

    private void read(Class<?> one) throws IOException {
        String name = one.getName();
        try (InputStream file = LessonMaker.class.getResourceAsStream(name + ".class")) {
            readClass(name, new DataInputStream(file));
        }
    }

    private void readClass(String name, DataInputStream in) throws IOException {
        in.readNBytes(8);
        Object[] pool = pool(in);
        in.readNBytes(6);
        in.readNBytes(2 * in.readUnsignedShort());
        int fields = in.readUnsignedShort();
        for (int i = 0; i < fields; i++) {
            in.readNBytes(6);
            skipAttributes(in);
        }
        int methods = in.readUnsignedShort();
        for (int i = 0; i < methods; i++) {
            in.readNBytes(2);
            String method = name + "." + pool[in.readUnsignedShort()] + pool[in.readUnsignedShort()];
            calls.put(method, new TreeSet<>());
            int attributes = in.readUnsignedShort();
            for (int j = 0; j < attributes; j++) {
                boolean isCode = "Code".equals(pool[in.readUnsignedShort()]);
                byte[] bytes = in.readNBytes(in.readInt());
                if (isCode) {
                    DataInputStream code = new DataInputStream(new ByteArrayInputStream(bytes));
                    code.readNBytes(4);
                    readCode(method, code.readNBytes(code.readInt()), pool);
                }
            }
        }
    }

    private static void skipAttributes(DataInputStream in) throws IOException {
        int attributes = in.readUnsignedShort();
        for (int i = 0; i < attributes; i++) {
            in.readNBytes(2);
            in.readNBytes(in.readInt());
        }
    }

    /** Texts stand as they are, what names others as a row of their places. */
    private static Object[] pool(DataInputStream in) throws IOException {
        Object[] pool = new Object[in.readUnsignedShort()];
        for (int i = 1; i < pool.length; i++) {
            int tag = in.readUnsignedByte();
            switch (tag) {
                case 1:
                    pool[i] = in.readUTF();
                    break;
                case 3: case 4: case 17: case 18:
                    in.readInt();
                    break;
                case 5: case 6:
                    in.readLong();
                    i++;
                    break;
                case 7: case 8: case 16: case 19: case 20:
                    pool[i] = new int[] {in.readUnsignedShort()};
                    break;
                case 9: case 10: case 11: case 12:
                    pool[i] = new int[] {in.readUnsignedShort(), in.readUnsignedShort()};
                    break;
                default:
                    in.readNBytes(3);
                    break;
            }
        }
        return pool;
    }

    private static Object named(Object[] pool, int at, int part) {
        return pool[((int[]) pool[at])[part]];
    }

    private static String className(Object[] pool, Object entry) {
        return (String) pool[((int[]) entry)[0]];
    }

    private void readCode(String method, byte[] code, Object[] pool) {
        for (int at = 0; at < code.length; at += widthAt(code, at)) {
            int act = code[at] & 255;
            boolean makes = act == NEW || act == NEWARRAY || act == ANEWARRAY || act == MULTIANEWARRAY;
            if (makes && !method.contains("<init>")) {
                boolean isException = act == NEW
                        && className(pool, pool[two(code, at + 1)]).equals("java/util/NoSuchElementException");
                due(method + " makes nothing but the exception", isException);
            }
            if (act >= 182 && act <= 186) {
                due(method + " calls by the plain acts alone", act < 185);
                String owner = className(pool, named(pool, two(code, at + 1), 0));
                int[] nameAndType = (int[]) named(pool, two(code, at + 1), 1);
                if (owner.startsWith("LessonMaker")) {
                    calls.get(method).add(owner + "." + pool[nameAndType[0]] + pool[nameAndType[1]]);
                }
            }
        }
    }

    private static int two(byte[] code, int at) {
        return (code[at] & 255) << 8 | code[at + 1] & 255;
    }

    private static int four(byte[] code, int at) {
        return two(code, at) << 16 | two(code, at + 2);
    }

    private static int widthAt(byte[] code, int at) {
        int act = code[at] & 255;
        int from = (at + 4 & ~3) - at;
        switch (act) {
            case 170:
                return from + 12 + 4 * (four(code, at + from + 8) - four(code, at + from + 4) + 1);
            case 171:
                return from + 8 + 8 * four(code, at + from + 4);
            case 196:
                return (code[at + 1] & 255) == 132 ? 6 : 4;
            case MULTIANEWARRAY:
                return 4;
            case 185: case 186: case 200: case 201:
                return 5;
            case 16: case 18: case 169: case NEWARRAY:
                return 2;
            case 17: case 19: case 20: case 132: case 192: case 193: case 198: case 199:
            case NEW: case ANEWARRAY:
                return 3;
            default:
                break;
        }
        boolean isOne = act >= 21 && act <= 25 || act >= 54 && act <= 58;
        boolean isTwo = act >= 153 && act <= 168 || act >= 178 && act <= 184;
        return isOne ? 2 : isTwo ? 3 : 1;
    }

    private static void due(String what, boolean holds) {
        Check.due(what, holds ? 1 : 0, 1);
    }
}
