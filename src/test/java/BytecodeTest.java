import java.io.ByteArrayInputStream;
import java.io.DataInputStream;
import java.io.IOException;
import java.io.InputStream;
import java.util.ArrayList;
import java.util.HashMap;
import java.util.LinkedHashMap;
import java.util.List;
import java.util.Map;
import java.util.Set;
import java.util.TreeSet;

/** What the compiled class shows of LANGUAGE.md: what it calls of the library, how deep calls go, what calls itself, what it catches. */
public final class BytecodeTest {
    // What the class calls today, not all that rule 4 lets it call: a new one is to be held against the rule by a reader.
    private static final Set<String> LIBRARY = new TreeSet<>(List.of("java/lang/Object.<init>", "java/lang/String.length",
        "java/lang/String.charAt", "java/lang/Math.min", "java/lang/Math.max", "java/lang/Math.floorDiv", "java/lang/Math.floorMod",
        "java/lang/System.arraycopy", "java/util/Arrays.copyOf"));
    private static final int DEEPEST = 8;
    private static final String OWN = "PieceStore";

    private static final Map<String, Set<String>> calls = new LinkedHashMap<>();
    private static final Map<String, Integer> depths = new HashMap<>();

    public static void main(String[] args) throws IOException {
        read(PieceStore.class);
        for (Class<?> inside : PieceStore.class.getDeclaredClasses()) {
            read(inside);
        }
        Due.is("the methods of the face are seen", calls.containsKey("PieceStore.save") && calls.containsKey("PieceStore.status"), true);
        for (Map.Entry<String, Set<String>> from : calls.entrySet()) {
            for (String to : from.getValue()) {
                Due.is(from.getKey() + " calls " + to + " (rule 4)", calls.containsKey(to) || LIBRARY.contains(to), true);
            }
            boolean mayCallItself = from.getKey().startsWith("PieceStore$Reader.read");
            Due.is(from.getKey() + " calls itself (rule 8)", reaches(from.getKey(), from.getKey(), new TreeSet<>()) && !mayCallItself, false);
        }
        for (String method : calls.keySet()) {
            if (method.startsWith(OWN + ".")) {
                Due.is(method + " goes " + depth(method) + " deep (rule 11)", depth(method) <= DEEPEST, true);
            }
        }
        Due.ends("BytecodeTest");
    }

    private static boolean reaches(String from, String to, Set<String> seen) {
        for (String next : calls.getOrDefault(from, Set.of())) {
            if (next.equals(to) || seen.add(next) && reaches(next, to, seen)) {
                return true;
            }
        }
        return false;
    }

    /** Calls that are open at once, without those of the reader's recursion. */
    private static int depth(String method) {
        Integer known = depths.get(method);
        if (known != null) {
            return known;
        }
        int deepest = 0;
        for (String next : calls.get(method)) {
            if (calls.containsKey(next) && !reaches(next, next, new TreeSet<>())) {
                deepest = Math.max(deepest, depth(next));
            }
        }
        depths.put(method, deepest + 1);
        return deepest + 1;
    }

    private static void read(Class<?> c) throws IOException {
        try (InputStream file = c.getResourceAsStream("/" + c.getName() + ".class"); DataInputStream in = new DataInputStream(file)) {
            in.skipBytes(8);
            Object[] pool = readPool(in);
            in.skipBytes(6);
            in.skipBytes(2 * in.readUnsignedShort());
            readMembers(in, c.getName(), pool);
            readMembers(in, c.getName(), pool);
        }
    }

    /** Texts as String, numbers of other entries as int[], the rest left out. */
    private static Object[] readPool(DataInputStream in) throws IOException {
        Object[] pool = new Object[in.readUnsignedShort()];
        for (int i = 1; i < pool.length; i++) {
            int tag = in.readUnsignedByte();
            switch (tag) {
                case 1: pool[i] = in.readUTF(); break;
                case 3: case 4: in.skipBytes(4); break;
                case 5: case 6: in.skipBytes(8); i++; break;
                case 7: case 8: case 16: case 19: case 20: pool[i] = new int[] {in.readUnsignedShort()}; break;
                case 15: in.skipBytes(3); break;
                default: pool[i] = new int[] {in.readUnsignedShort(), in.readUnsignedShort()}; break;
            }
        }
        return pool;
    }

    private static int at(Object[] pool, int entry, int k) {
        return ((int[]) pool[entry])[k];
    }

    private static String method(Object[] pool, int entry) {
        String owner = (String) pool[at(pool, at(pool, entry, 0), 0)];
        return owner + "." + pool[at(pool, at(pool, entry, 1), 0)];
    }

    private static void readMembers(DataInputStream in, String owner, Object[] pool) throws IOException {
        for (int members = in.readUnsignedShort(); members > 0; members--) {
            in.skipBytes(2);
            String name = owner + "." + pool[in.readUnsignedShort()];
            in.skipBytes(2);
            for (int parts = in.readUnsignedShort(); parts > 0; parts--) {
                String part = (String) pool[in.readUnsignedShort()];
                byte[] body = new byte[in.readInt()];
                in.readFully(body);
                if (part.equals("Code")) {
                    readCode(new DataInputStream(new ByteArrayInputStream(body)), name, pool);
                }
            }
        }
    }

    private static void readCode(DataInputStream in, String name, Object[] pool) throws IOException {
        in.skipBytes(4);
        byte[] code = new byte[in.readInt()];
        in.readFully(code);
        Due.is(name + " catches (rule 6)", in.readUnsignedShort(), 0);
        Set<String> to = calls.computeIfAbsent(name, n -> new TreeSet<>());
        for (int at = 0; at < code.length; at += length(code, at)) {
            int op = code[at] & 255;
            Due.is(name + " throws, locks, or has a lambda or joined texts (rules 2, 6, 10)", op == 0xbf || op == 0xc2 || op == 0xba, false);
            if (op >= 0xb6 && op <= 0xb9) {
                to.add(method(pool, (code[at + 1] & 255) << 8 | code[at + 2] & 255));
            }
        }
    }

    private static int number(byte[] code, int at) {
        return (code[at] & 255) << 24 | (code[at + 1] & 255) << 16 | (code[at + 2] & 255) << 8 | code[at + 3] & 255;
    }

    /** How many bytes the step at a place has. */
    private static int length(byte[] code, int at) {
        int op = code[at] & 255;
        int table = (at + 4) / 4 * 4;
        if (op == 0xaa) {
            return table + 12 + 4 * (number(code, table + 8) - number(code, table + 4) + 1) - at;
        }
        if (op == 0xab) {
            return table + 8 + 8 * number(code, table + 4) - at;
        }
        if (op == 0xc4) {
            return (code[at + 1] & 255) == 0x84 ? 6 : 4;
        }
        List<Integer> two = new ArrayList<>(List.of(0x10, 0x12, 0xa9, 0xbc));
        if (two.contains(op) || op >= 0x15 && op <= 0x19 || op >= 0x36 && op <= 0x3a) {
            return 2;
        }
        if (op == 0xb9 || op == 0xba || op == 0xc8 || op == 0xc9) {
            return 5;
        }
        if (op == 0xc5) {
            return 4;
        }
        boolean three = op == 0x11 || op == 0x13 || op == 0x14 || op == 0x84 || op >= 0x99 && op <= 0xa8 || op >= 0xb2 && op <= 0xb8
            || op == 0xbb || op == 0xbd || op == 0xc0 || op == 0xc1 || op == 0xc6 || op == 0xc7;
        return three ? 3 : 1;
    }
}
