import java.util.Random;

/** Many short texts, right and wrong, on PieceStore and on the model: the same fault at the same place. */
public final class FaultsTest {
    private static final String[] BITS = {"box 60;", "box 60;", "box 200 ;", "window 3;", "least 31;", "rot 100;", "keep 100;", "champs 0;",
        "border ", "hook ", "clean ", "all", "not ", "[", "]", "(", ")", "min(", "max (", "if(", ",", ";", "+", "-", "*", "/", "%",
        "<", ">", "=", " and ", " or ", "sum", "length", "byte", "normal", "print", "place", "live", "dead", "age", "day", "1", "23",
        "0004", "9999", "12345", "lengthy", "x", "B", " ", "\n", "\t", "\u0000", "\u00ff", "!", "all;", "1=1", "day<5;"};

    public static void main(String[] args) {
        int texts = args.length > 0 ? Integer.parseInt(args[0]) : 60000;
        Random random = new Random(7);
        int[] seen = new int[7];
        int good = 0;
        for (int i = 0; i < texts; i++) {
            good += compare(i % 3 == 0 ? joined(random) : grown(random), seen) ? 1 : 0;
        }
        Due.is("right ones are among them", good > texts / 50, true);
        for (int kind : new int[] {1, 4, 5, 6}) {
            Due.is("fault " + kind + " is among them", seen[kind] > texts / 1000, true);
        }
        Due.ends("FaultsTest");
    }

    private static boolean compare(String text, int[] seen) {
        Tried real = new Tried();
        Model model = new Model();
        for (int[] five : Calls.feeds(text)) {
            model.feed(five[0], five[1], five[2], five[3], five[4]);
        }
        model.end(text.length());
        int want = model.store();
        Due.is("store " + text, real.store(text), want);
        Due.is("fault(0) of " + text, real.x.fault(0), model.fault(0));
        Due.is("fault(1) of " + text, real.x.fault(1), model.fault(1));
        seen[model.fault(0)]++;
        return want > 0;
    }

    /** Bits behind one another. */
    private static String joined(Random random) {
        StringBuilder s = new StringBuilder(random.nextInt(10) == 0 ? "" : "box 60;");
        int bits = random.nextInt(12);
        for (int i = 0; i < bits; i++) {
            s.append(BITS[random.nextInt(BITS.length)]);
        }
        return s.toString();
    }

    /** A right text with a few wrong places. */
    private static String grown(Random random) {
        StringBuilder s = new StringBuilder("box 60;");
        if (random.nextInt(40) == 0) {
            s.append("rot 7;".repeat(37 + random.nextInt(4)));
        }
        String kind = new String[] {"border", "hook", "clean"}[random.nextInt(3)];
        s.append(kind).append(' ').append(test(random, kind, random.nextInt(3) == 0 ? 5 : 11)).append(';');
        if (random.nextInt(6) == 0) {
            s.append(random.nextBoolean() ? kind : "hook").append(" all;");
        }
        int edits = random.nextInt(3);
        for (int i = 0; i < edits && s.length() > 0; i++) {
            int at = random.nextInt(s.length());
            if (random.nextBoolean()) {
                s.insert(at, BITS[random.nextInt(BITS.length)]);
            } else {
                s.delete(at, at + 1 + random.nextInt(2));
            }
        }
        if (s.length() > 1600) {
            s.setLength(1600);
        }
        return s.toString();
    }

    private static String test(Random random, String kind, int depth) {
        int n = random.nextInt(depth > 0 ? 6 : 2);
        switch (n) {
            case 0: return "all";
            case 1: return sum(random, kind, depth - 1) + "<>=".charAt(random.nextInt(3)) + sum(random, kind, depth - 1);
            case 2: return "not " + (random.nextBoolean() ? "all" : "[" + test(random, kind, depth - 1) + "]");
            case 3: return "[" + test(random, kind, depth - 1) + "]";
            case 4: return test(random, kind, depth - 1) + " and " + test(random, kind, depth - 2);
            default: return "not not not " + test(random, kind, depth - 2) + " or " + test(random, kind, depth - 1);
        }
    }

    private static String sum(Random random, String kind, int depth) {
        int n = random.nextInt(depth > 0 ? 7 : 2);
        switch (n) {
            case 0: return String.valueOf(random.nextInt(10000));
            case 1: return kind.equals("border") ? "sum" : kind.equals("hook") ? "print" : "dead";
            case 2: return "(" + sum(random, kind, depth - 1) + ")";
            case 3: return "(((" + sum(random, kind, depth - 1) + ")))";
            case 4: return "min(" + sum(random, kind, depth - 1) + "," + sum(random, kind, depth - 2) + ")";
            case 5: return "if(" + test(random, kind, depth - 1) + "," + sum(random, kind, depth - 2) + ", day)";
            default: return sum(random, kind, depth - 1) + "+-*/%".charAt(random.nextInt(5)) + sum(random, kind, depth - 2);
        }
    }
}
