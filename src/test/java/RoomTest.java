import java.lang.management.ManagementFactory;
import java.lang.reflect.Array;
import java.lang.reflect.Field;
import java.lang.reflect.Modifier;
import java.util.IdentityHashMap;
import java.util.Random;

/** What dear runs of 512 calls make, against the room: 600,000 objects and arrays, 7.3 million fields and elements. */
public final class RoomTest {
    private static final long FIELDS = 7300000L;

    public static void main(String[] args) {
        com.sun.management.ThreadMXBean bean = (com.sun.management.ThreadMXBean) ManagementFactory.getThreadMXBean();
        dearRun(new Random(0));
        for (int seed = 1; seed <= 5; seed++) {
            Random random = new Random(seed);
            String[][] files = files(random);
            long before = bean.getCurrentThreadAllocatedBytes();
            PieceStore x = run(files, random);
            long made = bean.getCurrentThreadAllocatedBytes() - before;
            // A cell has four bytes; even if all that was made were cells it must stay far below the room.
            Due.is("run " + seed + " made " + made + " bytes", made / 4 < FIELDS / 4, true);
            long[] held = held(x);
            Due.is("run " + seed + " holds " + held[0] + " objects", held[0] < 20000, true);
            Due.is("run " + seed + " holds " + held[1] + " cells", held[1] < FIELDS / 8, true);
        }
        Due.ends("RoomTest");
    }

    private static void dearRun(Random random) {
        run(files(random), random);
    }

    private static String[][] files(Random random) {
        String[][] files = new String[1][25];
        for (int i = 0; i < 25; i++) {
            StringBuilder s = new StringBuilder();
            for (int k = 0; k < 300; k++) {
                s.append((char) random.nextInt(i % 2 == 0 ? 256 : 20));
            }
            files[0][i] = s.toString();
        }
        return files;
    }

    /** Some 25 files of 300 pieces each, cleaned away and undone again and again. */
    private static PieceStore run(String[][] files, Random random) {
        PieceStore x = new PieceStore();
        feed(x, "box 60;least 1;border all;segs 1;champs 4;hook all;clean all;");
        x.store();
        for (String file : files[0]) {
            feed(x, file);
            x.save();
            x.forget(0);
            x.clean();
            x.windows(0);
            if (random.nextInt(4) == 0) {
                x.undo();
                x.undo();
                x.undo();
            }
        }
        return x;
    }

    private static void feed(PieceStore x, String text) {
        for (int[] five : Calls.feeds(text)) {
            x.feed(five[0], five[1], five[2], five[3], five[4]);
        }
        x.end(text.length());
    }

    private static long[] held(Object root) {
        IdentityHashMap<Object, Boolean> seen = new IdentityHashMap<>();
        java.util.ArrayDeque<Object> open = new java.util.ArrayDeque<>();
        open.add(root);
        seen.put(root, true);
        long cells = 0;
        while (!open.isEmpty()) {
            Object o = open.poll();
            if (o.getClass().isArray()) {
                int n = Array.getLength(o);
                cells += n;
                for (int i = 0; i < n && !o.getClass().getComponentType().isPrimitive(); i++) {
                    add(Array.get(o, i), seen, open);
                }
                continue;
            }
            for (Field f : o.getClass().getDeclaredFields()) {
                if (!Modifier.isStatic(f.getModifiers())) {
                    cells++;
                    try {
                        f.setAccessible(true);
                        if (!f.getType().isPrimitive()) {
                            add(f.get(o), seen, open);
                        }
                    } catch (IllegalAccessException e) {
                        throw new IllegalStateException(e);
                    }
                }
            }
        }
        return new long[] {seen.size(), cells};
    }

    private static void add(Object o, IdentityHashMap<Object, Boolean> seen, java.util.ArrayDeque<Object> open) {
        if (o != null && seen.put(o, true) == null) {
            open.add(o);
        }
    }
}
