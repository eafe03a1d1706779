import java.util.ArrayList;
import java.util.List;

/** The calls of the face by name, so that a test can make the same one on the class and on the model. */
final class Calls {
    static final String[] NAMES = {"feed", "end", "store", "fault", "has", "backup", "piece", "box", "octet", "cuts",
        "shared", "edit", "why", "fetches", "later", "expires", "gain", "odds", "meet", "windows", "tells", "save",
        "forget", "days", "chance", "clean", "spoil", "smash", "undo", "seed", "kept", "status"};

    private Calls() {
    }

    /** How many arguments a call has. */
    static int arity(String name) {
        switch (name) {
            case "feed": return 5;
            case "piece": case "edit": return 3;
            case "backup": case "box": case "octet": case "shared": case "why": case "fetches": case "later":
            case "tells": case "spoil": case "kept": return 2;
            case "store": case "meet": case "save": case "clean": case "undo": return 0;
            default: return 1;
        }
    }

    static int on(PieceStore x, String name, int... a) {
        switch (name) {
            case "feed": return x.feed(a[0], a[1], a[2], a[3], a[4]);
            case "end": return x.end(a[0]) ? 1 : 0;
            case "store": return x.store();
            case "fault": return x.fault(a[0]);
            case "has": return x.has(a[0]);
            case "backup": return x.backup(a[0], a[1]);
            case "piece": return x.piece(a[0], a[1], a[2]);
            case "box": return x.box(a[0], a[1]);
            case "octet": return x.octet(a[0], a[1]);
            case "cuts": return x.cuts(a[0]);
            case "shared": return x.shared(a[0], a[1]);
            case "edit": return x.edit(a[0], a[1], a[2]);
            case "why": return x.why(a[0], a[1]);
            case "fetches": return x.fetches(a[0], a[1]);
            case "later": return x.later(a[0], a[1]);
            case "expires": return x.expires(a[0]);
            case "gain": return x.gain(a[0]);
            case "odds": return x.odds(a[0]);
            case "meet": return x.meet();
            case "windows": return x.windows(a[0]);
            case "tells": return x.tells(a[0], a[1]);
            case "save": return x.save();
            case "forget": return x.forget(a[0]) ? 1 : 0;
            case "days": return x.days(a[0]);
            case "chance": return x.chance(a[0]);
            case "clean": return x.clean();
            case "spoil": return x.spoil(a[0], a[1]) ? 1 : 0;
            case "smash": return x.smash(a[0]) ? 1 : 0;
            case "undo": return x.undo() ? 1 : 0;
            case "seed": return x.seed(a[0]) ? 1 : 0;
            case "kept": return x.kept(a[0], a[1]);
            case "status": return x.status(a[0]);
            default: throw new IllegalArgumentException(name);
        }
    }

    static int on(Model x, String name, int... a) {
        switch (name) {
            case "feed": return x.feed(a[0], a[1], a[2], a[3], a[4]);
            case "end": return x.end(a[0]) ? 1 : 0;
            case "store": return x.store();
            case "fault": return x.fault(a[0]);
            case "has": return x.has(a[0]);
            case "backup": return x.backup(a[0], a[1]);
            case "piece": return x.piece(a[0], a[1], a[2]);
            case "box": return x.box(a[0], a[1]);
            case "octet": return x.octet(a[0], a[1]);
            case "cuts": return x.cuts(a[0]);
            case "shared": return x.shared(a[0], a[1]);
            case "edit": return x.edit(a[0], a[1], a[2]);
            case "why": return x.why(a[0], a[1]);
            case "fetches": return x.fetches(a[0], a[1]);
            case "later": return x.later(a[0], a[1]);
            case "expires": return x.expires(a[0]);
            case "gain": return x.gain(a[0]);
            case "odds": return x.odds(a[0]);
            case "meet": return x.meet();
            case "windows": return x.windows(a[0]);
            case "tells": return x.tells(a[0], a[1]);
            case "save": return x.save();
            case "forget": return x.forget(a[0]) ? 1 : 0;
            case "days": return x.days(a[0]);
            case "chance": return x.chance(a[0]);
            case "clean": return x.clean();
            case "spoil": return x.spoil(a[0], a[1]) ? 1 : 0;
            case "smash": return x.smash(a[0]) ? 1 : 0;
            case "undo": return x.undo() ? 1 : 0;
            case "seed": return x.seed(a[0]) ? 1 : 0;
            case "kept": return x.kept(a[0], a[1]);
            case "status": return x.status(a[0]);
            default: throw new IllegalArgumentException(name);
        }
    }

    /** The arguments of the feeds that bring a text onto the tape; what is beyond it is blanks. */
    static List<int[]> feeds(String text) {
        List<int[]> all = new ArrayList<>();
        for (int from = 0; from < text.length(); from += 20) {
            int[] five = new int[5];
            for (int i = 0; i < 20; i++) {
                int c = from + i < text.length() ? text.charAt(from + i) : ' ';
                five[i / 4] = five[i / 4] << 8 | c;
            }
            all.add(five);
        }
        return all;
    }
}
