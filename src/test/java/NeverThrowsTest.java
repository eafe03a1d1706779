import java.util.Random;

/** Any call with any arguments in any state ends without an exception, far beyond 512 calls, too. */
public final class NeverThrowsTest {
    private static final int[] ODD = {0, 1, 2, 3, -1, -2, 5, 11, 12, 13, 39, 40, 41, 60, 255, 256, 299, 300, 399, 400, 999, 1000,
        Integer.MAX_VALUE, Integer.MAX_VALUE - 1, Integer.MIN_VALUE, Integer.MIN_VALUE + 1};
    private static final String[] TEXTS = {"box 60;least 1;border all;segs 1;champs 4;hook all;",
        "box 200;least 1;border byte%2=0;segs 8;keep 9;rot 90;clean all;desk 1;", "box 60;", "box 60;most 60;least 30;clean dead>0;rot 100;",
        "box 99;border sum/(day-1)%(length-3)>9999*9999*9999;hook print/(place%2)=0;"};

    public static void main(String[] args) {
        int made = 0;
        for (int run = 0; run < 60; run++) {
            made += oneRun(new Random(run), run < 50 ? 600 : 12000);
        }
        longTest();
        longLife();
        Due.is("calls made", made > 100000, true);
        Due.ends("NeverThrowsTest");
    }

    private static int oneRun(Random random, int calls) {
        Tried t = new Tried();
        if (random.nextInt(5) > 0) {
            t.store(TEXTS[random.nextInt(TEXTS.length)]);
        }
        for (int i = 0; i < calls; i++) {
            String name = Calls.NAMES[random.nextInt(Calls.NAMES.length)];
            if (random.nextInt(3) == 0) {
                t.x.end(0);
                t.tape(bytes(random));
                name = random.nextInt(4) > 0 ? "save" : name;
            }
            if (random.nextInt(300) == 0) {
                t.x.end(0);
                t.store(TEXTS[random.nextInt(TEXTS.length)]);
            }
            int[] a = new int[Calls.arity(name)];
            for (int k = 0; k < a.length; k++) {
                a[k] = random.nextInt(5) == 0 ? random.nextInt() : ODD[random.nextInt(ODD.length)];
            }
            Calls.on(t.x, name, a);
        }
        return calls;
    }

    private static String bytes(Random random) {
        int n = random.nextInt(20) == 0 ? random.nextInt(420) : random.nextInt(60);
        int kinds = 1 + random.nextInt(256);
        StringBuilder s = new StringBuilder();
        for (int i = 0; i < n; i++) {
            s.append((char) random.nextInt(kinds));
        }
        return s.toString();
    }

    /** Long tests are deep for no one: a chain of sums, a chain of tests, all that the tape can have. */
    private static void longTest() {
        String sum = "1" + "+1".repeat(780);
        Due.is("a long sum", new Tried().store("box 60;hook " + sum + "=1;"), 2);
        Tried t = Tried.with("box 60;least 1;border " + "all and ".repeat(190) + "all;");
        Due.is("a long test", t.cuts("abc", PieceStore.NONE), 3);
        t = Tried.with("box 60;least 1;border " + "1".concat("*1".repeat(700)) + "=1;");
        Due.is("a long product", t.cuts("x".repeat(400), PieceStore.NONE), 400);
    }

    /** So many saves on one store that its rows are full: refused then, and all questions have answers. */
    private static void longLife() {
        Random random = new Random(3);
        Tried t = Tried.with("box 200;least 1;border all;segs 1;champs 4;hook all;clean all;");
        boolean refused = false;
        for (int i = 0; i < 400; i++) {
            StringBuilder s = new StringBuilder();
            for (int k = 0; k < 200; k++) {
                s.append((char) random.nextInt(256));
            }
            refused |= t.save(s.toString()) < 0;
            for (String name : Calls.NAMES) {
                if (!name.equals("undo") && !name.equals("store")) {
                    Calls.on(t.x, name, new int[Calls.arity(name)]);
                }
            }
            t.x.end(0);
            t.x.forget(0);
            t.x.clean();
        }
        Due.is("full in the end", refused, true);
        for (int i = 0; i < 25; i++) {
            t.x.undo();
        }
    }
}
