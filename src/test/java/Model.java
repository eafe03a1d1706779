import java.util.ArrayList;
import java.util.Arrays;
import java.util.HashSet;
import java.util.IdentityHashMap;
import java.util.LinkedHashMap;
import java.util.List;
import java.util.Map;
import java.util.Set;
import java.util.TreeMap;

/**
 * The document once more, as plainly as the Java library allows and by other means than PieceStore:
 * objects for pieces, boxes and segments, trees for tests, whole copies for undoing.
 */
final class Model {
    static final int NONE = -1;

    // ---- the language

    private static final class Fault extends Exception {
        private static final long serialVersionUID = 1L;
        final int kind;
        final int place;

        Fault(int kind, int place) {
            this.kind = kind;
            this.place = place;
        }
    }

    private interface Sum {
        long of(Map<String, Integer> facts);
    }

    private static long bound(long v) {
        return Math.max(-1000000L, Math.min(1000000L, v));
    }

    private static final class Parser {
        final String text;
        int at = 0;
        int open = 0;
        String kind = "";
        final Map<String, Integer> numbers = new LinkedHashMap<>();
        final Map<String, Sum> tests = new LinkedHashMap<>();
        int statements = 0;

        Parser(String text) {
            this.text = text;
        }

        static boolean letter(char c) {
            return "abcdefghijklmnopqrstuvwxyz".indexOf(c) >= 0;
        }

        static boolean digit(char c) {
            return "0123456789".indexOf(c) >= 0;
        }

        void blanks() {
            while (at < text.length() && (text.charAt(at) == ' ' || text.charAt(at) == '\n')) {
                at++;
            }
        }

        /** The token at the present place ("" at the end), not taken. */
        String peek() throws Fault {
            blanks();
            if (at == text.length()) {
                return "";
            }
            char c = text.charAt(at);
            if (!letter(c) && !digit(c)) {
                return text.substring(at, at + 1);
            }
            if (at > 0 && (letter(text.charAt(at - 1)) || digit(text.charAt(at - 1)))) {
                throw new Fault(1, at);
            }
            int to = at;
            int most = letter(c) ? 6 : 4;
            while (to < text.length() && (letter(c) ? letter(text.charAt(to)) : digit(text.charAt(to)))) {
                if (to - at == most) {
                    throw new Fault(1, to);
                }
                to++;
            }
            return text.substring(at, to);
        }

        String take() throws Fault {
            String t = peek();
            at += t.length();
            return t;
        }

        void must(String t) throws Fault {
            if (!peek().equals(t)) {
                throw new Fault(1, at);
            }
            take();
        }

        static final String[] NAMES = {"box", "window", "least", "normal", "most", "segs", "champs", "desk", "keep", "rot"};
        static final int[][] BOUNDS = {{60, 200}, {1, 16}, {1, 30}, {1, 60}, {30, 60}, {1, 8}, {0, 4}, {1, 6}, {0, 99}, {0, 100}};
        static final int[] WITHOUT = {0, 4, 3, 8, 30, 4, 2, 2, 0, 0};

        void parse() throws Fault {
            for (int i = 0; i < NAMES.length; i++) {
                numbers.put(NAMES[i], WITHOUT[i]);
            }
            blanks();
            while (at < text.length()) {
                if (statements == 40) {
                    throw new Fault(6, at);
                }
                String word = peek();
                int place = at;
                int name = Arrays.asList(NAMES).indexOf(word);
                if (statements == 0 && name != 0 || statements > 0 && name == 0) {
                    throw new Fault(1, place);
                }
                if (name >= 0) {
                    take();
                    String n = peek();
                    if (n.isEmpty() || !digit(n.charAt(0))) {
                        throw new Fault(1, at);
                    }
                    int v = Integer.parseInt(n);
                    if (v < BOUNDS[name][0] || v > BOUNDS[name][1]) {
                        throw new Fault(4, at);
                    }
                    take();
                    numbers.put(word, v);
                } else if (word.equals("border") || word.equals("hook") || word.equals("clean")) {
                    if (tests.containsKey(word)) {
                        throw new Fault(6, place);
                    }
                    take();
                    kind = word;
                    tests.put(word, test());
                } else {
                    throw new Fault(1, place);
                }
                must(";");
                statements++;
                blanks();
            }
            if (statements == 0) {
                throw new Fault(1, text.length());
            }
        }

        void open() throws Fault {
            if (open == 7) {
                throw new Fault(5, at);
            }
            open++;
        }

        Sum test() throws Fault {
            Sum left = both();
            while (peek().equals("or")) {
                take();
                Sum a = left;
                Sum b = both();
                left = f -> a.of(f) != 0 || b.of(f) != 0 ? 1 : 0;
            }
            return left;
        }

        Sum both() throws Fault {
            Sum left = fact();
            while (peek().equals("and")) {
                take();
                Sum a = left;
                Sum b = fact();
                left = f -> a.of(f) != 0 && b.of(f) != 0 ? 1 : 0;
            }
            return left;
        }

        Sum fact() throws Fault {
            String t = peek();
            if (t.equals("not")) {
                open();
                take();
                Sum a = fact();
                open--;
                return f -> a.of(f) == 0 ? 1 : 0;
            }
            if (t.equals("[")) {
                open();
                take();
                Sum a = test();
                must("]");
                open--;
                return a;
            }
            if (t.equals("all")) {
                take();
                return f -> 1;
            }
            Sum a = sum();
            String sign = peek();
            if (!sign.equals("<") && !sign.equals(">") && !sign.equals("=")) {
                throw new Fault(1, at);
            }
            take();
            Sum b = sum();
            if (sign.equals("<")) {
                return f -> a.of(f) < b.of(f) ? 1 : 0;
            }
            if (sign.equals(">")) {
                return f -> a.of(f) > b.of(f) ? 1 : 0;
            }
            return f -> a.of(f) == b.of(f) ? 1 : 0;
        }

        Sum sum() throws Fault {
            Sum left = product();
            while (peek().equals("+") || peek().equals("-")) {
                int sign = take().equals("+") ? 1 : -1;
                Sum a = left;
                Sum b = product();
                left = f -> bound(a.of(f) + sign * b.of(f));
            }
            return left;
        }

        Sum product() throws Fault {
            Sum left = part();
            while (peek().equals("*") || peek().equals("/") || peek().equals("%")) {
                String sign = take();
                Sum a = left;
                Sum b = part();
                if (sign.equals("*")) {
                    left = f -> bound(a.of(f) * b.of(f));
                } else {
                    left = f -> {
                        long x = a.of(f);
                        long y = b.of(f);
                        if (y == 0) {
                            return 0;
                        }
                        long q = (long) Math.floor((double) x / (double) y);
                        return sign.equals("/") ? q : x - y * q;
                    };
                }
            }
            return left;
        }

        Sum part() throws Fault {
            String t = peek();
            if (!t.isEmpty() && digit(t.charAt(0))) {
                take();
                long v = Integer.parseInt(t);
                return f -> v;
            }
            if (t.equals("(")) {
                open();
                take();
                Sum a = sum();
                must(")");
                open--;
                return a;
            }
            if (t.equals("min") || t.equals("max") || t.equals("if")) {
                take();
                if (!peek().equals("(")) {
                    throw new Fault(1, at);
                }
                open();
                take();
                Sum c = f -> 1;
                if (t.equals("if")) {
                    c = test();
                    must(",");
                }
                Sum cc = c;
                Sum a = sum();
                must(",");
                Sum b = sum();
                must(")");
                open--;
                if (t.equals("min")) {
                    return f -> Math.min(a.of(f), b.of(f));
                }
                if (t.equals("max")) {
                    return f -> Math.max(a.of(f), b.of(f));
                }
                return f -> cc.of(f) != 0 ? a.of(f) : b.of(f);
            }
            String facts = kind.equals("border") ? " day sum length byte normal "
                : kind.equals("hook") ? " day print length place " : " day live dead age ";
            if (t.isEmpty() || !letter(t.charAt(0)) || !facts.contains(" " + t + " ")) {
                throw new Fault(1, at);
            }
            take();
            return f -> f.get(t);
        }
    }

    private static Sum compile(String kind, String text) {
        Parser p = new Parser(text);
        p.kind = kind;
        try {
            return p.test();
        } catch (Fault f) {
            throw new IllegalStateException(text);
        }
    }

    // ---- what is saved

    private static final class Piece {
        String bytes;
        boolean spoiled;
    }

    private static final class Box {
        List<Piece> pieces = new ArrayList<>();
        int day;
        boolean broken;

        int bytes() {
            int n = 0;
            for (Piece p : pieces) {
                n += p.bytes.length();
            }
            return n;
        }
    }

    private static final class Segment {
        List<Piece> pieces = new ArrayList<>();
        int number;
    }

    private static final class Backup {
        List<Piece> pieces = new ArrayList<>();
        int day;

        String file() {
            StringBuilder b = new StringBuilder();
            for (Piece p : pieces) {
                b.append(p.bytes);
            }
            return b.toString();
        }
    }

    private static final class World {
        int day = 0;
        List<Box> boxes = new ArrayList<>();
        Backup[] backups = new Backup[12];
        Map<String, Segment> index = new LinkedHashMap<>();
        int segments = 0;
        List<int[]> kept = new ArrayList<>();

        World copy() {
            World w = new World();
            w.day = day;
            w.segments = segments;
            w.kept = new ArrayList<>(kept);
            IdentityHashMap<Piece, Piece> twins = new IdentityHashMap<>();
            for (Box b : boxes) {
                Box c = new Box();
                c.day = b.day;
                c.broken = b.broken;
                c.pieces = twinsOf(b.pieces, twins);
                w.boxes.add(c);
            }
            for (int i = 0; i < 12; i++) {
                if (backups[i] != null) {
                    w.backups[i] = new Backup();
                    w.backups[i].day = backups[i].day;
                    w.backups[i].pieces = twinsOf(backups[i].pieces, twins);
                }
            }
            IdentityHashMap<Segment, Segment> twinSegments = new IdentityHashMap<>();
            for (Map.Entry<String, Segment> e : index.entrySet()) {
                Segment s = twinSegments.get(e.getValue());
                if (s == null) {
                    s = new Segment();
                    s.number = e.getValue().number;
                    s.pieces = twinsOf(e.getValue().pieces, twins);
                    twinSegments.put(e.getValue(), s);
                }
                w.index.put(e.getKey(), s);
            }
            return w;
        }

        private static List<Piece> twinsOf(List<Piece> pieces, IdentityHashMap<Piece, Piece> twins) {
            List<Piece> r = new ArrayList<>();
            for (Piece p : pieces) {
                Piece t = twins.get(p);
                if (t == null) {
                    t = new Piece();
                    t.bytes = p.bytes;
                    t.spoiled = p.spoiled;
                    twins.put(p, t);
                }
                r.add(t);
            }
            return r;
        }

        Box boxOf(Piece p) {
            for (Box b : boxes) {
                for (Piece q : b.pieces) {
                    if (q == p) {
                        return b;
                    }
                }
            }
            return null;
        }

        Set<Piece> live() {
            Set<Piece> s = java.util.Collections.newSetFromMap(new IdentityHashMap<>());
            for (Backup b : backups) {
                if (b != null) {
                    s.addAll(b.pieces);
                }
            }
            return s;
        }

        int bytes() {
            int n = 0;
            for (Box b : boxes) {
                n += b.bytes();
            }
            return n;
        }

        int stored() {
            int n = 0;
            for (Box b : boxes) {
                n += b.pieces.size();
            }
            return n;
        }
    }

    private String tape = "";
    private Parser rules = null;
    private World world = new World();
    private final List<World> past = new ArrayList<>();
    private List<int[]> met = null;
    private long seed = 1;
    private int faultKind = 0;
    private int faultPlace = NONE;
    private final int[] refused = new int[6];

    private int no(int kind) {
        refused[kind]++;
        return NONE;
    }

    private boolean not(int kind) {
        refused[kind]++;
        return false;
    }

    private int number(String name) {
        return rules == null ? 0 : rules.numbers.get(name);
    }

    private boolean holds(String kind, String without, Object... facts) {
        Sum test = rules.tests.get(kind);
        if (test == null) {
            test = defaults.computeIfAbsent(kind, k -> compile(kind, without));
        }
        Map<String, Integer> m = new TreeMap<>();
        m.put("day", world.day);
        for (int i = 0; i < facts.length; i += 2) {
            m.put((String) facts[i], (Integer) facts[i + 1]);
        }
        return test.of(m) != 0;
    }

    private final Map<String, Sum> defaults = new TreeMap<>();

    private boolean cleanHolds(Box b) {
        Set<Piece> live = world.live();
        int alive = 0;
        int dead = 0;
        for (Piece p : b.pieces) {
            if (live.contains(p)) {
                alive += p.bytes.length();
            } else {
                dead += p.bytes.length();
            }
        }
        return holds("clean", "dead > live", "live", alive, "dead", dead, "age", world.day - b.day);
    }

    private List<String> cut(String file, int window) {
        List<String> r = new ArrayList<>();
        int from = 0;
        for (int i = 0; i < file.length(); i++) {
            long sum = 0;
            long power = 1;
            for (int back = 0; back < window && i - back >= 0; back++) {
                sum = (sum + file.charAt(i - back) * power) % 1009;
                power = power * 31 % 1009;
            }
            int length = i - from + 1;
            boolean end = length >= number("least") && holds("border", "sum % if(length < normal, 8, 3) = 0",
                "sum", (int) sum, "length", length, "byte", (int) file.charAt(i), "normal", number("normal"));
            if (end || length == number("most") || i == file.length() - 1) {
                r.add(file.substring(from, i + 1));
                from = i + 1;
            }
        }
        return r;
    }

    private static int print(String bytes) {
        long c = 7;
        for (char b : bytes.toCharArray()) {
            c = (257 * c + b + 1) % 65521;
        }
        return (int) c;
    }

    private void act() {
        past.add(world.copy());
        if (past.size() > 20) {
            past.remove(0);
        }
    }

    private Backup find(int b) {
        return b < 0 || b > 11 ? null : world.backups[b];
    }

    private Piece find(int b, int k) {
        Backup x = find(b);
        return x == null || k < 0 || k >= x.pieces.size() ? null : x.pieces.get(k);
    }

    // ---- the face

    int feed(int a, int b, int c, int d, int e) {
        if (tape.length() > 1580) {
            return no(0);
        }
        StringBuilder s = new StringBuilder(tape);
        for (int n : new int[] {a, b, c, d, e}) {
            for (byte x : java.nio.ByteBuffer.allocate(4).putInt(n).array()) {
                s.append((char) (x & 255));
            }
        }
        tape = s.toString();
        return tape.length();
    }

    boolean end(int n) {
        if (n < 0 || n > tape.length()) {
            return not(0);
        }
        tape = tape.substring(0, n);
        return true;
    }

    private String takeTape() {
        String t = tape;
        tape = "";
        return t;
    }

    int store() {
        Parser p = new Parser(takeTape());
        try {
            p.parse();
        } catch (Fault f) {
            faultKind = f.kind;
            faultPlace = f.place;
            return no(1);
        }
        faultKind = 0;
        faultPlace = NONE;
        rules = p;
        world = new World();
        past.clear();
        met = null;
        return p.statements;
    }

    int fault(int what) {
        return what == 0 ? faultKind : what == 1 ? faultPlace : NONE;
    }

    int has(int what) {
        int backups = 0;
        for (Backup b : world.backups) {
            backups += b == null ? 0 : 1;
        }
        int[] all = {number("box"), backups, world.stored(), world.live().size(), world.boxes.size(), world.bytes(),
            world.index.size(), world.day, Math.min(40, world.kept.size()), met == null ? 0 : met.size(), past.size(), (int) seed};
        return what < 0 || what >= all.length ? NONE : all[what];
    }

    int backup(int backup, int what) {
        Backup b = find(backup);
        if (b == null) {
            return NONE;
        }
        return what == 0 ? b.day : what == 1 ? b.file().length() : what == 2 ? b.pieces.size() : NONE;
    }

    int piece(int backup, int k, int what) {
        Piece p = find(backup, k);
        if (p == null) {
            return NONE;
        }
        Box b = world.boxOf(p);
        int[] all = {p.bytes.length(), print(p.bytes), world.boxes.indexOf(b), b.pieces.indexOf(p), p.spoiled ? 1 : 0};
        return what < 0 || what >= all.length ? NONE : all[what];
    }

    int box(int box, int what) {
        if (box < 0 || box >= world.boxes.size()) {
            return NONE;
        }
        Box b = world.boxes.get(box);
        int alive = 0;
        Set<Piece> live = world.live();
        for (Piece p : b.pieces) {
            alive += live.contains(p) ? 1 : 0;
        }
        int[] all = {b.bytes(), b.pieces.size(), alive, world.day - b.day, b.broken ? 1 : 0, cleanHolds(b) ? 1 : 0};
        return what < 0 || what >= all.length ? NONE : all[what];
    }

    int octet(int backup, int k) {
        Backup b = find(backup);
        return b == null || k < 0 || k >= b.file().length() ? NONE : b.file().charAt(k);
    }

    int cuts(int k) {
        String file = takeTape();
        if (rules == null || file.isEmpty() || file.length() > 400) {
            return no(3);
        }
        List<String> pieces = cut(file, number("window"));
        if (k == NONE) {
            return pieces.size();
        }
        return k < 0 || k >= pieces.size() ? NONE : pieces.get(k).length();
    }

    int shared(int backup, int other) {
        Backup a = find(backup);
        Backup b = find(other);
        if (a == null || b == null) {
            return NONE;
        }
        int n = 0;
        for (Piece p : a.pieces) {
            n += b.pieces.contains(p) ? p.bytes.length() : 0;
        }
        return n;
    }

    int edit(int backup, int k, int to) {
        Backup b = find(backup);
        if (b == null || k < 0 || k >= b.file().length() || to < 0 || to > 255) {
            return NONE;
        }
        StringBuilder s = new StringBuilder(b.file());
        s.setCharAt(k, (char) to);
        Set<String> old = new HashSet<>();
        for (Piece p : b.pieces) {
            old.add(p.bytes);
        }
        int n = 0;
        for (String p : cut(s.toString(), number("window"))) {
            n += old.contains(p) ? 0 : 1;
        }
        return n;
    }

    int why(int backup, int what) {
        Backup b = find(backup);
        if (b == null || what < 0 || what > 2) {
            return NONE;
        }
        for (int k = 0; k < b.pieces.size(); k++) {
            Box x = world.boxOf(b.pieces.get(k));
            if (x.broken || b.pieces.get(k).spoiled) {
                return what == 0 ? k : what == 1 ? (x.broken ? 1 : 2) : world.boxes.indexOf(x);
            }
        }
        return NONE;
    }

    int fetches(int backup, int plan) {
        Backup b = find(backup);
        if (b == null || plan < 0 || plan > 1) {
            return NONE;
        }
        List<Integer> seq = new ArrayList<>();
        for (Piece p : b.pieces) {
            seq.add(world.boxes.indexOf(world.boxOf(p)));
        }
        List<Integer> desk = new ArrayList<>();   // by when they were used, the latest last
        int n = 0;
        for (int i = 0; i < seq.size(); i++) {
            Integer x = seq.get(i);
            if (!desk.remove(x)) {
                n++;
                if (desk.size() == number("desk")) {
                    if (plan == 0) {
                        desk.remove(0);
                    } else {
                        Integer away = null;
                        int furthest = -1;
                        for (int box = 0; box < world.boxes.size(); box++) {
                            if (desk.contains(box)) {
                                int next = seq.subList(i, seq.size()).indexOf(box);
                                next = next < 0 ? 1000 : next;
                                if (next > furthest) {
                                    furthest = next;
                                    away = box;
                                }
                            }
                        }
                        desk.remove(away);
                    }
                }
            }
            desk.add(x);
        }
        return n;
    }

    private int expire() {
        int n = 0;
        for (int i = 0; i < 12; i++) {
            Backup b = world.backups[i];
            if (b != null && number("keep") > 0 && world.day - b.day + 1 >= number("keep")) {
                world.backups[i] = null;
                n++;
            }
        }
        world.day++;
        return n;
    }

    private boolean daysCanBe(int n) {
        return rules != null && n >= 0 && n <= 40 && world.day + n <= 999;
    }

    int later(int n, int what) {
        if (!daysCanBe(n) || what < 0 || what > 2) {
            return NONE;
        }
        World before = world;
        world = world.copy();
        for (int i = 0; i < n; i++) {
            expire();
        }
        int bytes = 0;
        for (Piece p : world.live()) {
            bytes += p.bytes.length();
        }
        int r = what == 0 ? has(1) : what == 1 ? has(3) : bytes;
        world = before;
        return r;
    }

    int expires(int backup) {
        if (find(backup) == null) {
            return NONE;
        }
        World before = world;
        world = world.copy();
        int r = NONE;
        for (int i = 1; i <= 40 && r == NONE && world.day < 999; i++) {
            expire();
            r = world.backups[backup] == null ? i : NONE;
        }
        world = before;
        return r;
    }

    private int cleanNow() {
        List<Box> gone = new ArrayList<>();
        for (Box b : world.boxes) {
            if (!b.broken && cleanHolds(b)) {
                gone.add(b);
            }
        }
        world.boxes.removeAll(gone);
        Set<Piece> live = world.live();
        for (Box b : gone) {
            for (Piece p : b.pieces) {
                if (live.contains(p)) {
                    write(p);
                } else {
                    for (Segment s : world.index.values()) {
                        s.pieces.removeIf(q -> q == p);
                    }
                }
            }
        }
        return gone.size();
    }

    private void write(Piece p) {
        Box last = world.boxes.isEmpty() ? null : world.boxes.get(world.boxes.size() - 1);
        if (last == null || last.bytes() + p.bytes.length() > number("box")) {
            last = new Box();
            last.day = world.day;
            world.boxes.add(last);
        }
        last.pieces.add(p);
    }

    int gain(int what) {
        if (rules == null || what < 0 || what > 1) {
            return NONE;
        }
        World before = world;
        world = world.copy();
        cleanNow();
        int r = what == 0 ? before.bytes() - world.bytes() : before.boxes.size() - world.boxes.size();
        world = before;
        return Math.max(0, r);
    }

    int odds(int backup) {
        if (world.boxes.isEmpty() || world.day >= 999 || backup != NONE && find(backup) == null) {
            return NONE;
        }
        int n = 0;
        for (int r = 0; r < 100; r++) {
            for (Box b : world.boxes) {
                boolean was = b.broken;
                b.broken = was || r < number("rot");
                n += backup == NONE || why(backup, 0) == NONE ? 1 : 0;
                b.broken = was;
            }
        }
        return n;
    }

    int meet() {
        String t = takeTape();
        if (rules == null || t.isEmpty() || t.length() > 32 || t.length() % 2 == 1) {
            return no(5);
        }
        List<int[]> rows = new ArrayList<>();
        for (int i = 0; i < t.length(); i += 2) {
            if (t.charAt(i) > 39 || t.charAt(i + 1) > 60) {
                return no(5);
            }
            rows.add(new int[] {t.charAt(i), t.charAt(i + 1)});
        }
        met = rows;
        return rows.size();
    }

    private static int length(List<String> pieces, int k) {
        return k < pieces.size() ? pieces.get(k).length() : 0;
    }

    private Map<Integer, List<String>> left(Backup b) {
        Map<Integer, List<String>> r = new TreeMap<>();
        for (int w = 1; w <= 16; w++) {
            List<String> pieces = cut(b.file(), w);
            boolean fine = true;
            for (int[] row : met == null ? new ArrayList<int[]>() : met) {
                fine &= length(pieces, row[0]) == row[1];
            }
            if (fine) {
                r.put(w, pieces);
            }
        }
        return r;
    }

    int windows(int backup) {
        if (find(backup) == null) {
            return NONE;
        }
        int bits = 0;
        for (int w : left(find(backup)).keySet()) {
            bits |= 1 << w;
        }
        return bits;
    }

    int tells(int backup, int what) {
        if (find(backup) == null || what < 0 || what > 1) {
            return NONE;
        }
        Map<Integer, List<String>> left = left(find(backup));
        if (left.isEmpty()) {
            return NONE;
        }
        int best = 0;
        int fewest = 100;
        for (int k = 0; k < 40; k++) {
            Map<Integer, Integer> counts = new TreeMap<>();
            for (List<String> pieces : left.values()) {
                counts.merge(length(pieces, k), 1, Integer::sum);
            }
            int most = 0;
            for (int c : counts.values()) {
                most = Math.max(most, c);
            }
            if (most < fewest) {
                fewest = most;
                best = k;
            }
        }
        return what == 0 ? best : fewest;
    }

    int save() {
        String file = takeTape();
        if (rules == null || file.isEmpty() || file.length() > 400) {
            return no(3);
        }
        int number = Arrays.asList(world.backups).indexOf(null);
        List<String> pieces = cut(file, number("window"));
        if (number < 0 || world.stored() + pieces.size() > 300) {
            return no(3);
        }
        act();
        Backup b = new Backup();
        b.day = world.day;
        int before = world.stored();
        for (int from = 0; from < pieces.size(); from += number("segs")) {
            saveSegment(b, pieces, from, Math.min(pieces.size(), from + number("segs")));
        }
        world.backups[number] = b;
        world.kept.add(new int[] {world.day, pieces.size(), world.stored() - before});
        return number;
    }

    private void saveSegment(Backup b, List<String> pieces, int from, int to) {
        Set<String> hooks = new HashSet<>();
        for (int k = from; k < to; k++) {
            String p = pieces.get(k);
            if (holds("hook", "print % 2 = 0", "print", print(p), "length", p.length(), "place", k)) {
                hooks.add(p);
            }
        }
        List<Segment> champions = new ArrayList<>();
        Set<String> left = new HashSet<>(hooks);
        for (int c = 0; c < number("champs"); c++) {
            Map<Integer, Integer> votes = new TreeMap<>();
            Map<Integer, Segment> byNumber = new TreeMap<>();
            for (String h : left) {
                Segment s = world.index.get(h);
                if (s != null) {
                    votes.merge(s.number, 1, Integer::sum);
                    byNumber.put(s.number, s);
                }
            }
            Segment best = null;
            for (int n : votes.keySet()) {
                if (best == null || votes.get(n) >= votes.get(best.number)) {
                    best = byNumber.get(n);
                }
            }
            if (best == null) {
                break;
            }
            champions.add(best);
            Segment champion = best;
            left.removeIf(h -> world.index.get(h) == champion);
        }
        Segment own = new Segment();
        own.number = world.segments++;
        List<Segment> sources = new ArrayList<>(champions);
        sources.add(own);
        for (int k = from; k < to; k++) {
            Piece found = null;
            for (Segment s : sources) {
                for (Piece p : s.pieces) {
                    if (found == null && p.bytes.equals(pieces.get(k))) {
                        found = p;
                    }
                }
            }
            if (found == null) {
                found = new Piece();
                found.bytes = pieces.get(k);
                write(found);
            }
            own.pieces.add(found);
            b.pieces.add(found);
        }
        for (String h : hooks) {
            world.index.put(h, own);
        }
    }

    boolean forget(int backup) {
        if (find(backup) == null) {
            return not(3);
        }
        act();
        world.backups[backup] = null;
        return true;
    }

    int days(int n) {
        if (n < 1 || !daysCanBe(n)) {
            return no(2);
        }
        act();
        int r = 0;
        for (int i = 0; i < n; i++) {
            r += expire();
        }
        return r;
    }

    private int draw(int m) {
        seed = (1103515245L * seed + 12345L) % (1L << 31);
        return (int) (seed / 64 % m);
    }

    int chance(int n) {
        if (n < 1 || !daysCanBe(n)) {
            return no(2);
        }
        act();
        int r = 0;
        for (int i = 0; i < n; i++) {
            if (draw(100) < number("rot") && !world.boxes.isEmpty()) {
                world.boxes.get(draw(world.boxes.size())).broken = true;
                r++;
            }
            expire();
        }
        return r;
    }

    int clean() {
        if (rules == null) {
            return no(2);
        }
        boolean any = false;
        for (Box b : world.boxes) {
            any |= !b.broken && cleanHolds(b);
        }
        if (!any) {
            return no(2);
        }
        act();
        return cleanNow();
    }

    boolean spoil(int backup, int k) {
        Piece p = find(backup, k);
        if (p == null || p.spoiled) {
            return not(3);
        }
        act();
        find(backup, k).spoiled = true;
        return true;
    }

    boolean smash(int box) {
        if (box < 0 || box >= world.boxes.size() || world.boxes.get(box).broken) {
            return not(3);
        }
        act();
        world.boxes.get(box).broken = true;
        return true;
    }

    boolean undo() {
        if (past.isEmpty()) {
            return not(4);
        }
        world = past.remove(past.size() - 1);
        return true;
    }

    boolean seed(int s) {
        if (s < 0) {
            return not(5);
        }
        seed = s;
        return true;
    }

    int kept(int k, int what) {
        List<int[]> told = world.kept.subList(Math.max(0, world.kept.size() - 40), world.kept.size());
        return k < 0 || k >= told.size() || what < 0 || what > 2 ? NONE : told.get(k)[what];
    }

    int status(int what) {
        return what < 0 || what > 5 ? NONE : refused[what];
    }
}
