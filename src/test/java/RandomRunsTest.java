import java.util.ArrayList;
import java.util.Arrays;
import java.util.List;
import java.util.Random;

/** The same calls on PieceStore and on the model, by fixed seeds: every answer must be the same. */
public final class RandomRunsTest {
    private static final int CALLS = 512;
    private static final String[] PHRASES = {"the ice of the lake ", "salt is kept apart, ", "and so the keeper ", "of grey and blue ",
        "none of theirs ", "abcabcabcabc", "zzzzzzzzzzzzzzzzzzzz", "x", ".", "0123456789", "\u0000\u0001\u00ff\u00fe"};

    private final Random random;
    private final int run;
    private PieceStore real = new PieceStore();
    private Model model = new Model();
    private final List<String> files = new ArrayList<>();
    private final List<String> log = new ArrayList<>();
    private int calls = 0;
    private boolean wrong = false;

    private RandomRunsTest(int run) {
        this.run = run;
        this.random = new Random(run);
    }

    public static void main(String[] args) {
        int first = args.length > 0 ? Integer.parseInt(args[0]) : 0;
        int runs = args.length > 1 ? Integer.parseInt(args[1]) : 600;
        int wrong = 0;
        int made = 0;
        for (int i = first; i < first + runs; i++) {
            RandomRunsTest t = new RandomRunsTest(i);
            t.go();
            made += t.calls;
            wrong += t.wrong ? 1 : 0;
        }
        System.out.println(runs + " runs, " + made + " calls, " + wrong + " runs with a wrong answer");
        if (wrong != 0) {
            System.exit(1);
        }
    }

    private int call(String name, int... a) {
        if (calls >= CALLS || wrong) {
            return 0;
        }
        calls++;
        int want = Calls.on(model, name, a);
        int got = Calls.on(real, name, a);
        log.add(name + Arrays.toString(a) + " -> " + want);
        if (got != want) {
            wrong = true;
            System.out.println("run " + run + ", call " + calls + ": " + name + Arrays.toString(a) + " answered " + got + ", the model " + want);
            for (String line : log.subList(Math.max(0, log.size() - 12), log.size())) {
                System.out.println("    " + line);
            }
        }
        return want;
    }

    private int below(int n) {
        return random.nextInt(n);
    }

    private void tape(String text) {
        for (int[] five : Calls.feeds(text)) {
            call("feed", five);
        }
        if (text.length() % 20 != 0) {
            call("end", text.length());
        }
    }

    private void go() {
        if (below(8) == 0) {
            noise(10);
        }
        if (run % 5 == 4) {
            faultyStores();
        }
        newStore();
        int acts = 30 + below(120);
        for (int i = 0; i < acts && calls < CALLS && !wrong; i++) {
            act();
            if (below(3) == 0) {
                ask(1 + below(12));
            }
        }
        while (calls < CALLS && !wrong) {
            ask(8);
        }
    }

    private void act() {
        int n = run % 7 == 3 && below(12) == 0 ? 98 : below(100);
        if (n < 45) {
            tape(file());
            call(below(12) == 0 ? "cuts" : "save", below(12) == 0 ? new int[] {below(12) - 1} : new int[] {below(6) - 1});
        } else if (n < 53) {
            call("forget", below(12));
        } else if (n < 60) {
            call("days", 1 + below(4));
        } else if (n < 66) {
            call("chance", 1 + below(5));
        } else if (n < 75) {
            call("clean");
        } else if (n < 80) {
            call("spoil", below(4), below(10));
        } else if (n < 84) {
            call("smash", below(6));
        } else if (n < 93) {
            int times = 1 + below(below(6) == 0 ? 25 : 4);
            for (int i = 0; i < times; i++) {
                call("undo");
            }
        } else if (n < 94) {
            call("seed", random.nextInt() & (below(10) == 0 ? -1 : Integer.MAX_VALUE));
        } else if (n < 97) {
            meet();
        } else if (n < 98) {
            call(below(2) == 0 ? "days" : "chance", 40);
        } else if (n < 99 && below(run % 7 == 3 ? 1 : 3) == 0) {
            newStore();
        } else {
            noise(4);
        }
    }

    private void meet() {
        StringBuilder s = new StringBuilder();
        int rows = 1 + below(below(5) == 0 ? 17 : 2);
        for (int i = 0; i < rows; i++) {
            s.append((char) below(below(20) == 0 ? 42 : 12));
            s.append((char) below(below(20) == 0 ? 63 : 9));
        }
        if (below(15) == 0) {
            s.append('x');
        }
        tape(s.toString());
        call("meet");
        for (int b = 0; b < 3; b++) {
            call("windows", b);
            call("tells", b, below(3));
        }
    }

    private void ask(int many) {
        String[] asked = {"has", "backup", "piece", "box", "octet", "shared", "edit", "why", "fetches", "later", "expires",
            "gain", "odds", "windows", "tells", "kept", "status", "fault"};
        for (int i = 0; i < many; i++) {
            String name = asked[below(asked.length)];
            int b = below(13) - (below(12) == 0 ? 1 : 0);
            b = below(2) == 0 ? b % 4 : b;
            switch (name) {
                case "has": call(name, below(14) - 1); break;
                case "piece": call(name, b, below(30) - 1, below(6)); break;
                case "box": call(name, below(12) - 1, below(7)); break;
                case "octet": call(name, b, below(120) - 1); break;
                case "shared": call(name, b, below(12)); break;
                case "edit": call(name, b, below(100) - 1, below(260) - 2); break;
                case "later": call(name, below(44) - 2, below(4)); break;
                case "kept": call(name, below(44) - 2, below(4)); break;
                case "status": call(name, below(8) - 1); break;
                case "gain": case "fault": call(name, below(4) - 1); break;
                case "expires": case "odds": case "windows": call(name, b); break;
                default: call(name, b, below(5) - 1); break;
            }
        }
    }

    /** Calls with whatever arguments. */
    private void noise(int many) {
        int[] odd = {0, 1, -1, 2, 11, 12, 40, 41, 300, 999, 1000, Integer.MAX_VALUE, Integer.MIN_VALUE, -2};
        for (int i = 0; i < many; i++) {
            String name = Calls.NAMES[below(Calls.NAMES.length)];
            int[] a = new int[Calls.arity(name)];
            for (int k = 0; k < a.length; k++) {
                a[k] = below(4) == 0 ? random.nextInt() : odd[below(odd.length)];
            }
            call(name, a);
        }
    }

    // ---- files

    private String file() {
        StringBuilder s = new StringBuilder();
        if (!files.isEmpty() && below(3) > 0) {
            s.append(files.get(below(files.size())));
            int edits = below(4);
            for (int i = 0; i < edits && s.length() > 0; i++) {
                edit(s);
            }
        } else {
            int most = below(10) == 0 ? 400 : 20 + below(110);
            while (s.length() < most) {
                s.append(below(6) == 0 ? String.valueOf((char) below(256)) : PHRASES[below(PHRASES.length)]);
            }
        }
        if (s.length() > 400 && below(5) > 0) {
            s.setLength(400);
        }
        String file = s.toString();
        if (!file.isEmpty() && file.length() <= 400) {
            files.add(file);
        }
        return file;
    }

    private void edit(StringBuilder s) {
        int at = below(s.length());
        switch (below(4)) {
            case 0: s.setCharAt(at, (char) below(256)); break;
            case 1: s.insert(at, PHRASES[below(PHRASES.length)]); break;
            case 2: s.delete(at, Math.min(s.length(), at + 1 + below(20))); break;
            default: s.append(PHRASES[below(PHRASES.length)]); break;
        }
    }

    // ---- texts of stores

    private void newStore() {
        tape(storeText());
        call("store");
        call("fault", 0);
        call("fault", 1);
    }

    private String storeText() {
        StringBuilder s = new StringBuilder();
        if (run % 7 == 3 && below(2) == 0) {
            return "box 99;least 1;segs " + (1 + below(3)) + ";" + (below(2) == 0 ? "hook all;" : "");
        }
        s.append("box ").append(60 + below(141)).append(';');
        String[] names = {"window", "least", "normal", "most", "segs", "champs", "desk", "keep", "rot"};
        int[][] bounds = {{1, 16}, {1, 30}, {1, 60}, {30, 60}, {1, 8}, {0, 4}, {1, 6}, {0, 99}, {0, 100}};
        for (int i = 0; i < names.length; i++) {
            if (below(3) > 0) {
                int low = bounds[i][0];
                int high = below(2) == 0 ? bounds[i][1] : Math.min(bounds[i][1], low + 6);
                s.append(names[i]).append(blanks(1)).append(low + below(high - low + 1)).append(';').append(blanks(0));
            }
        }
        for (String kind : new String[] {"border", "hook", "clean"}) {
            if (below(2) == 0) {
                s.append(kind).append(' ').append(test(kind, below(3))).append(blanks(0)).append(';');
            }
        }
        return s.toString();
    }

    private String blanks(int least) {
        int n = least + (below(8) == 0 ? below(3) : 0);
        return below(4) == 0 ? "\n".repeat(n) : " ".repeat(n);
    }

    private String test(String kind, int depth) {
        StringBuilder s = new StringBuilder(fact(kind, depth));
        int more = below(3) == 0 ? 1 + below(2) : 0;
        for (int i = 0; i < more; i++) {
            s.append(below(2) == 0 ? " and " : " or ").append(fact(kind, depth));
        }
        return s.toString();
    }

    private String fact(String kind, int depth) {
        int n = below(10);
        if (depth > 0 && n == 0) {
            return "not " + fact(kind, depth - 1);
        }
        if (depth > 0 && n == 1) {
            return "[" + blanks(0) + test(kind, depth - 1) + "]";
        }
        if (n == 2) {
            return below(3) == 0 ? "all" : "day < " + below(30);
        }
        if (kind.equals("border") && n < 6) {
            return "sum%" + (2 + below(9)) + "=" + below(2);
        }
        if (kind.equals("hook") && n < 6) {
            return "print % " + (2 + below(3)) + " < " + (1 + below(2));
        }
        return sum(kind, depth) + blanks(0) + "<>=".charAt(below(3)) + sum(kind, depth);
    }

    private String sum(String kind, int depth) {
        StringBuilder s = new StringBuilder(part(kind, depth));
        int more = below(3);
        for (int i = 0; i < more; i++) {
            s.append(blanks(0)).append("+-*/%".charAt(below(5))).append(blanks(0)).append(part(kind, depth));
        }
        return s.toString();
    }

    private String part(String kind, int depth) {
        String[] facts = kind.equals("border") ? new String[] {"day", "sum", "length", "byte", "normal"}
            : kind.equals("hook") ? new String[] {"day", "print", "length", "place"} : new String[] {"day", "live", "dead", "age"};
        int n = below(12);
        if (depth > 0 && n == 0) {
            return "(" + sum(kind, depth - 1) + ")";
        }
        if (depth > 0 && n == 1) {
            return (below(2) == 0 ? "min" : "max") + blanks(0) + "(" + sum(kind, depth - 1) + "," + sum(kind, depth - 1) + ")";
        }
        if (depth > 0 && n == 2) {
            return "if(" + test(kind, depth - 1) + "," + sum(kind, depth - 1) + blanks(0) + "," + sum(kind, depth - 1) + ")";
        }
        if (n < 6) {
            return String.valueOf(below(below(3) == 0 ? 10000 : 12));
        }
        return facts[below(facts.length)];
    }

    private void faultyStores() {
        String[] odd = {"(", ")", "[", "]", "not ", "if(", "min(", ";", ",", " and ", " or ", "all", "=", "<", "12345", "box 60;",
            "hook all;", "border all;", "a", "z", "7", " ", "\n", "\u0000", "\u00e9", "A", "lengthy", "print", "sum", "live", "0", "9999", "rot 1;"};
        while (calls < CALLS / 2 && !wrong) {
            StringBuilder s = new StringBuilder(storeText());
            if (below(20) == 0) {
                while (s.length() < 600) {
                    s.append("rot ").append(below(101)).append(';');
                }
            }
            int edits = 1 + below(3);
            for (int i = 0; i < edits; i++) {
                int at = below(s.length() + 1);
                int n = below(4);
                if (n == 0) {
                    s.insert(at, odd[below(odd.length)]);
                } else if (n == 1) {
                    s.delete(at, Math.min(s.length(), at + 1 + below(4)));
                } else if (n == 2) {
                    s.insert(at, odd[below(6)].repeat(1 + below(9)));
                } else if (below(4) == 0) {
                    s.setLength(at);
                }
            }
            if (s.length() > 1600) {
                s.setLength(1600);
            }
            tape(s.toString());
            call("store");
            call("fault", 0);
            call("fault", 1);
        }
    }
}
